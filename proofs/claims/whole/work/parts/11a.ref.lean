def f_X12_thrown (fu : Nat) (u_T : S32) (v_T : S64) : Option (Int32) := some (u_T 0 2)
set_option maxHeartbeats 4000000 in
set_option maxRecDepth 100000 in
theorem c_X12_thrown {l : Launch} {g : GG} {A : Nat → Prop} {X : va_W} {fu : Nat} {a_T : Nat → Nat} {u_T : S32} {v_T : S64} {r : Int32} (hf : f_X12_thrown fu u_T v_T = some r) : MI l yX12_thrown cX12_thrown 1 (some .int) 0 g A (cl_X12 g a_T u_T v_T ++ X) [.ref (a_T 0)] r (cl_X12 g a_T u_T v_T ++ X) := by
  refine tx_start (av := [.ref (a_T 0)]) (by decide) (Nat.le_of_ble_eq_true rfl) ?_
  intro p e s m below meth c ls S hr hlk hE hw hl
  have S : CallFix p m c cX12_thrown 1 s (List.toArray [.ref (a_T 0)]) (Cond.code yX12_thrown cX12_thrown 1 (some .int) :: allW) RX12 := S
  have hx := S.1
  have hb := S.2.1
  have hown := S.2.2.2.1
  have hts : ∀ w ∈ allW, w.before (List.toArray [.ref (a_T 0)]) s = true := fun w h => S.2.2.2.2 w (List.mem_cons_of_mem _ h)
  have hl : lv_has ls 1 [(0, .ref (a_T 0))] := hl
  unfold f_X12_thrown at hf
  refine lv_aload_n hx hb dX12_thrown_0 rfl (lv_at hl 0 rfl) ?_
  refine gf_X12_145 S hE hw 0 rfl rfl dX12_thrown_1 ?_
  obtain e0 := tx_in1 hf
  rw [← e0]
  exact tx_iret S hr hlk hw dX12_thrown_4
def f_X12_feed_J76 (fu : Nat) (v_T : S64) (K23 : S32 → Int32 → Int32 → Int32 → Int32 → Int32 → Int32 → Option (Int32 × S32)) (u_T : S32) (w1 : Int32) (w2 : Int32) (w3 : Int32) (w4 : Int32) (w5 : Int32) (w6 : Int32) (t0 : Int32) : Option (Int32 × S32) := tx_ck ((u_T 0 1) + w6) 700 <| tx_let (up2 u_T 1 ((u_T 0 1) + w6).toNatClampNeg ((t0 >>> (((24 : Int32) - ((8 : Int32) * (w6 - w6 / (4 : Int32) * (4 : Int32)))) &&& 31)) &&& (255 : Int32))) fun (u_T_10 : S32) => tx_let (w6 + (1 : Int32)) fun (y_11 : Int32) => K23 u_T_10 w1 w2 w3 w4 w5 y_11
def f_X12_feed_J23 (fu : Nat) (v_T : S64) (K23 : S32 → Int32 → Int32 → Int32 → Int32 → Int32 → Int32 → Option (Int32 × S32)) (u_T : S32) (w1 : Int32) (w2 : Int32) (w3 : Int32) (w4 : Int32) (w5 : Int32) (w6 : Int32) : Option (Int32 × S32) := if (20 : Int32) ≤ w6 then (tx_let (up2 u_T 0 1 ((u_T 0 1) + (20 : Int32))) fun (u_T_4 : S32) => some (u_T_4 0 1, u_T_4)) else (if (4 : Int32) ≤ w6 then (if (8 : Int32) ≤ w6 then (if (12 : Int32) ≤ w6 then (if (16 : Int32) ≤ w6 then (f_X12_feed_J76 fu v_T K23 u_T w1 w2 w3 w4 w5 w6 w5) else (f_X12_feed_J76 fu v_T K23 u_T w1 w2 w3 w4 w5 w6 w4)) else (f_X12_feed_J76 fu v_T K23 u_T w1 w2 w3 w4 w5 w6 w3)) else (f_X12_feed_J76 fu v_T K23 u_T w1 w2 w3 w4 w5 w6 w2)) else (f_X12_feed_J76 fu v_T K23 u_T w1 w2 w3 w4 w5 w6 w1))
def f_X12_feed_L23 (fu : Nat) (v_T : S64) : Nat → S32 → Int32 → Int32 → Int32 → Int32 → Int32 → Int32 → Option (Int32 × S32)
  | 0 => fun _ _ _ _ _ _ _ => none
  | n + 1 => f_X12_feed_J23 fu v_T (f_X12_feed_L23 fu v_T n)
def f_X12_feed (fu : Nat) (v_T : S64) (u_T : S32) (x1 : Int32) (x2 : Int32) (x3 : Int32) (x4 : Int32) (x5 : Int32) : Option (Int32 × S32) := tx_let (up2 u_T 0 2 (0 : Int32)) fun (u_T_1 : S32) => if ((u_T_1 0 1) + (20 : Int32)) ≤ (700 : Int32) then (f_X12_feed_L23 fu v_T fu u_T_1 x1 x2 x3 x4 x5 (0 : Int32)) else (some ((-1 : Int32), u_T_1))
set_option maxHeartbeats 4000000 in
set_option maxRecDepth 100000 in
theorem c_X12_feed {l : Launch} {g : GG} {A : Nat → Prop} {X : va_W} {fu : Nat} {a_T : Nat → Nat} {u_T : S32} {v_T : S64} {x1 : Int32} {x2 : Int32} {x3 : Int32} {x4 : Int32} {x5 : Int32} {r : Int32} {zu_T : S32} (hf : f_X12_feed fu v_T u_T x1 x2 x3 x4 x5 = some (r, zu_T)) : MI l yX12_feed cX12_feed 8 (some .int) 0 g A (cl_X12 g a_T u_T v_T ++ X) [.ref (a_T 0), .int x1, .int x2, .int x3, .int x4, .int x5] r (cl_X12 g a_T zu_T v_T ++ X) := by
  refine tx_start (av := [.ref (a_T 0), .int x1, .int x2, .int x3, .int x4, .int x5]) (by decide) (Nat.le_of_ble_eq_true rfl) ?_
  intro p e s m below meth c ls S hr hlk hE hw hl
  have S : CallFix p m c cX12_feed 8 s (List.toArray [.ref (a_T 0), .int x1, .int x2, .int x3, .int x4, .int x5]) (Cond.code yX12_feed cX12_feed 8 (some .int) :: allW) RX12 := S
  have hx := S.1
  have hb := S.2.1
  have hown := S.2.2.2.1
  have hts : ∀ w ∈ allW, w.before (List.toArray [.ref (a_T 0), .int x1, .int x2, .int x3, .int x4, .int x5]) s = true := fun w h => S.2.2.2.2 w (List.mem_cons_of_mem _ h)
  have hl : lv_has ls 8 [(0, .ref (a_T 0)), (1, .int x1), (2, .int x2), (3, .int x3), (4, .int x4), (5, .int x5)] := hl
  have J76 : ∀ {K23 : S32 → Int32 → Int32 → Int32 → Int32 → Int32 → Int32 → Option (Int32 × S32)} (hK23 : ∀ {u_T : S32} {w1 : Int32} {w2 : Int32} {w3 : Int32} {w4 : Int32} {w5 : Int32} {w6 : Int32} {H : Heap} {locs : List Loc} {ls : Array Slot}, K23 u_T w1 w2 w3 w4 w5 w6 = some (r, zu_T) → WD g A s.heap (cl_X12 g a_T u_T v_T ++ X) H locs → lv_has ls 8 [(0, .ref (a_T 0)), (1, .int w1), (2, .int w2), (3, .int w3), (4, .int w4), (5, .int w5), (6, .int w6)] → W p l e (rmH 0) s m (List.toArray [.ref (a_T 0), .int x1, .int x2, .int x3, .int x4, .int x5]) below meth c H locs 0 0 (MQ below (va_Qi (fun r2 (_ : Unit) => r2 = r) (fun _ t => POST g A (cl_X12 g a_T zu_T v_T ++ X) t) A) (List.toArray [.ref (a_T 0), .int x1, .int x2, .int x3, .int x4, .int x5]) s 0 0 A) (F0 m 23 ls [])), ∀ {u_T : S32} {w1 : Int32} {w2 : Int32} {w3 : Int32} {w4 : Int32} {w5 : Int32} {w6 : Int32} {t0 : Int32} {H : Heap} {locs : List Loc} {ls : Array Slot}, f_X12_feed_J76 fu v_T K23 u_T w1 w2 w3 w4 w5 w6 t0 = some (r, zu_T) → WD g A s.heap (cl_X12 g a_T u_T v_T ++ X) H locs → lv_has ls 8 [(0, .ref (a_T 0)), (1, .int w1), (2, .int w2), (3, .int w3), (4, .int w4), (5, .int w5), (6, .int w6)] → W p l e (rmH 0) s m (List.toArray [.ref (a_T 0), .int x1, .int x2, .int x3, .int x4, .int x5]) below meth c H locs 0 0 (MQ below (va_Qi (fun r2 (_ : Unit) => r2 = r) (fun _ t => POST g A (cl_X12 g a_T zu_T v_T ++ X) t) A) (List.toArray [.ref (a_T 0), .int x1, .int x2, .int x3, .int x4, .int x5]) s 0 0 A) (F0 m 76 ls [.int t0]) := by
    intro K23 hK23 u_T w1 w2 w3 w4 w5 w6 t0 H locs ls hf hw hl
    unfold f_X12_feed_J76 at hf
    refine lv_istore (lv' := [(7, .int t0), (0, .ref (a_T 0)), (1, .int w1), (2, .int w2), (3, .int w3), (4, .int w4), (5, .int w5), (6, .int w6)]) hx hb dX12_feed_76 hl (by decide) rfl (fun ls hl => ?_)
    refine lv_aload_n hx hb dX12_feed_78 rfl (lv_at hl 1 rfl) ?_
    refine gf_X12_7 S hE hw 0 rfl rfl dX12_feed_79 ?_
    refine lv_aload_n hx hb dX12_feed_82 rfl (lv_at hl 1 rfl) ?_
    refine gf_X12_148 S hE hw 0 rfl rfl dX12_feed_83 ?_
    refine lv_iload hx hb dX12_feed_86 (lv_at hl 7 rfl) ?_
    refine lv_iadd hx hb dX12_feed_88 ?_
    refine lv_iload hx hb dX12_feed_89 (lv_at hl 0 rfl) ?_
    refine lv_bipush (v := 24) hx hb dX12_feed_91 (by decide) ?_
    refine lv_bipush (v := 8) hx hb dX12_feed_93 (by decide) ?_
    refine lv_iload hx hb dX12_feed_95 (lv_at hl 7 rfl) ?_
    refine lv_iconst (v := 4) hx hb dX12_feed_97 (by decide) ?_
    refine lv_irem hx hb dX12_feed_98 (by decide) ?_
    refine lv_imul hx hb dX12_feed_99 ?_
    refine lv_isub hx hb dX12_feed_100 ?_
    refine lv_ishr hx hb dX12_feed_101 ?_
    refine lv_sipush (v := 255) hx hb dX12_feed_102 (by decide) ?_
    refine lv_iand hx hb dX12_feed_105 ?_
    obtain ⟨h_9, hf⟩ := tx_ck_e hf
    obtain ⟨u_T_10, eu_T_10⟩ : ∃ z : S32, z = up2 u_T 1 ((u_T 0 1) + w6).toNatClampNeg ((t0 >>> (((24 : Int32) - ((8 : Int32) * (w6 - w6 / (4 : Int32) * (4 : Int32)))) &&& 31)) &&& (255 : Int32)) := ⟨_, rfl⟩
    replace hf := tx_let_e hf eu_T_10
    refine tx_iast (ws' := cl_X12 g a_T u_T_10 v_T ++ X) S hE hw 1 rfl h_9 (by rw [eu_T_10]; rfl) dX12_feed_106 (fun H locs hw => ?_)
    obtain ⟨y_11, ey_11⟩ : ∃ y : Int32, y = w6 + (1 : Int32) := ⟨_, rfl⟩
    replace hf := tx_let_e hf ey_11
    refine lv_iinc (v := y_11) (lv' := [(6, .int y_11), (7, .int t0), (0, .ref (a_T 0)), (1, .int w1), (2, .int w2), (3, .int w3), (4, .int w4), (5, .int w5)]) hx hb dX12_feed_107 hl (k := 7) rfl (by rw [ey_11]; rfl) (by decide) rfl (fun ls hl => ?_)
    refine lv_goto (tgt := 23) hx hb dX12_feed_110 (by decide) ?_
    exact hK23 hf hw (lv_sub hl [2, 3, 4, 5, 6, 7, 0] rfl)
  have J23 : ∀ {K23 : S32 → Int32 → Int32 → Int32 → Int32 → Int32 → Int32 → Option (Int32 × S32)} (hK23 : ∀ {u_T : S32} {w1 : Int32} {w2 : Int32} {w3 : Int32} {w4 : Int32} {w5 : Int32} {w6 : Int32} {H : Heap} {locs : List Loc} {ls : Array Slot}, K23 u_T w1 w2 w3 w4 w5 w6 = some (r, zu_T) → WD g A s.heap (cl_X12 g a_T u_T v_T ++ X) H locs → lv_has ls 8 [(0, .ref (a_T 0)), (1, .int w1), (2, .int w2), (3, .int w3), (4, .int w4), (5, .int w5), (6, .int w6)] → W p l e (rmH 0) s m (List.toArray [.ref (a_T 0), .int x1, .int x2, .int x3, .int x4, .int x5]) below meth c H locs 0 0 (MQ below (va_Qi (fun r2 (_ : Unit) => r2 = r) (fun _ t => POST g A (cl_X12 g a_T zu_T v_T ++ X) t) A) (List.toArray [.ref (a_T 0), .int x1, .int x2, .int x3, .int x4, .int x5]) s 0 0 A) (F0 m 23 ls [])), ∀ {u_T : S32} {w1 : Int32} {w2 : Int32} {w3 : Int32} {w4 : Int32} {w5 : Int32} {w6 : Int32} {H : Heap} {locs : List Loc} {ls : Array Slot}, f_X12_feed_J23 fu v_T K23 u_T w1 w2 w3 w4 w5 w6 = some (r, zu_T) → WD g A s.heap (cl_X12 g a_T u_T v_T ++ X) H locs → lv_has ls 8 [(0, .ref (a_T 0)), (1, .int w1), (2, .int w2), (3, .int w3), (4, .int w4), (5, .int w5), (6, .int w6)] → W p l e (rmH 0) s m (List.toArray [.ref (a_T 0), .int x1, .int x2, .int x3, .int x4, .int x5]) below meth c H locs 0 0 (MQ below (va_Qi (fun r2 (_ : Unit) => r2 = r) (fun _ t => POST g A (cl_X12 g a_T zu_T v_T ++ X) t) A) (List.toArray [.ref (a_T 0), .int x1, .int x2, .int x3, .int x4, .int x5]) s 0 0 A) (F0 m 23 ls []) := by
    intro K23 hK23 u_T w1 w2 w3 w4 w5 w6 H locs ls hf hw hl
    unfold f_X12_feed_J23 at hf
    refine lv_iload hx hb dX12_feed_23 (lv_at hl 6 rfl) ?_
    refine lv_bipush (v := 20) hx hb dX12_feed_25 (by decide) ?_
    refine lv_icmp_ge (tgt := 113) hx hb dX12_feed_27 (by decide) (fun h_3 => ?_) (fun h_3 => ?_)
    · replace hf := tx_pos hf h_3
      refine lv_aload_n hx hb dX12_feed_113 rfl (lv_at hl 0 rfl) ?_
      refine lv_dup hx hb dX12_feed_114 rfl ?_
      refine gf_X12_148 S hE hw 0 rfl rfl dX12_feed_115 ?_
      refine lv_bipush (v := 20) hx hb dX12_feed_118 (by decide) ?_
      refine lv_iadd hx hb dX12_feed_120 ?_
      obtain ⟨u_T_4, eu_T_4⟩ : ∃ z : S32, z = up2 u_T 0 1 ((u_T 0 1) + (20 : Int32)) := ⟨_, rfl⟩
      replace hf := tx_let_e hf eu_T_4
      refine pf_X12_148 (ws' := cl_X12 g a_T u_T_4 v_T ++ X) S hE hw rfl rfl 0 rfl (Nat.le_of_ble_eq_true rfl) (by rw [eu_T_4]; rfl) dX12_feed_121 (fun H locs hw => ?_)
      refine lv_aload_n hx hb dX12_feed_124 rfl (lv_at hl 0 rfl) ?_
      refine gf_X12_148 S hE hw 0 rfl rfl dX12_feed_125 ?_
      obtain ⟨e0, e1⟩ := tx_in2 hf
      rw [← e0, ← e1]
      exact tx_iret S hr hlk hw dX12_feed_128
    · replace hf := tx_neg hf h_3
      refine lv_iload hx hb dX12_feed_30 (lv_at hl 6 rfl) ?_
      refine lv_iconst (v := 4) hx hb dX12_feed_32 (by decide) ?_
      refine lv_icmp_ge (tgt := 40) hx hb dX12_feed_33 (by decide) (fun h_5 => ?_) (fun h_5 => ?_)
      · replace hf := tx_pos hf h_5
        refine lv_iload hx hb dX12_feed_40 (lv_at hl 6 rfl) ?_
        refine lv_bipush (v := 8) hx hb dX12_feed_42 (by decide) ?_
        refine lv_icmp_ge (tgt := 51) hx hb dX12_feed_44 (by decide) (fun h_6 => ?_) (fun h_6 => ?_)
        · replace hf := tx_pos hf h_6
          refine lv_iload hx hb dX12_feed_51 (lv_at hl 6 rfl) ?_
          refine lv_bipush (v := 12) hx hb dX12_feed_53 (by decide) ?_
          refine lv_icmp_ge (tgt := 62) hx hb dX12_feed_55 (by decide) (fun h_7 => ?_) (fun h_7 => ?_)
          · replace hf := tx_pos hf h_7
            refine lv_iload hx hb dX12_feed_62 (lv_at hl 6 rfl) ?_
            refine lv_bipush (v := 16) hx hb dX12_feed_64 (by decide) ?_
            refine lv_icmp_ge (tgt := 74) hx hb dX12_feed_66 (by decide) (fun h_8 => ?_) (fun h_8 => ?_)
            · replace hf := tx_pos hf h_8
              refine lv_iload hx hb dX12_feed_74 (lv_at hl 5 rfl) ?_
              exact J76 hK23 hf hw (lv_sub hl [0, 1, 2, 3, 4, 5, 6] rfl)
            · replace hf := tx_neg hf h_8
              refine lv_iload hx hb dX12_feed_69 (lv_at hl 4 rfl) ?_
              refine lv_goto (tgt := 76) hx hb dX12_feed_71 (by decide) ?_
              exact J76 hK23 hf hw (lv_sub hl [0, 1, 2, 3, 4, 5, 6] rfl)
          · replace hf := tx_neg hf h_7
            refine lv_iload_n hx hb dX12_feed_58 rfl (lv_at hl 3 rfl) ?_
            refine lv_goto (tgt := 76) hx hb dX12_feed_59 (by decide) ?_
            exact J76 hK23 hf hw (lv_sub hl [0, 1, 2, 3, 4, 5, 6] rfl)
        · replace hf := tx_neg hf h_6
          refine lv_iload_n hx hb dX12_feed_47 rfl (lv_at hl 2 rfl) ?_
          refine lv_goto (tgt := 76) hx hb dX12_feed_48 (by decide) ?_
          exact J76 hK23 hf hw (lv_sub hl [0, 1, 2, 3, 4, 5, 6] rfl)
      · replace hf := tx_neg hf h_5
        refine lv_iload_n hx hb dX12_feed_36 rfl (lv_at hl 1 rfl) ?_
        refine lv_goto (tgt := 76) hx hb dX12_feed_37 (by decide) ?_
        exact J76 hK23 hf hw (lv_sub hl [0, 1, 2, 3, 4, 5, 6] rfl)
  have L23 : ∀ (n : Nat), ∀ {u_T : S32} {w1 : Int32} {w2 : Int32} {w3 : Int32} {w4 : Int32} {w5 : Int32} {w6 : Int32} {H : Heap} {locs : List Loc} {ls : Array Slot}, f_X12_feed_L23 fu v_T n u_T w1 w2 w3 w4 w5 w6 = some (r, zu_T) → WD g A s.heap (cl_X12 g a_T u_T v_T ++ X) H locs → lv_has ls 8 [(0, .ref (a_T 0)), (1, .int w1), (2, .int w2), (3, .int w3), (4, .int w4), (5, .int w5), (6, .int w6)] → W p l e (rmH 0) s m (List.toArray [.ref (a_T 0), .int x1, .int x2, .int x3, .int x4, .int x5]) below meth c H locs 0 0 (MQ below (va_Qi (fun r2 (_ : Unit) => r2 = r) (fun _ t => POST g A (cl_X12 g a_T zu_T v_T ++ X) t) A) (List.toArray [.ref (a_T 0), .int x1, .int x2, .int x3, .int x4, .int x5]) s 0 0 A) (F0 m 23 ls []) := by
    intro  n
    induction n with
    | zero => intro u_T w1 w2 w3 w4 w5 w6 H locs ls hf; exact absurd hf (by intro q; cases q)
    | succ n ih => exact fun hf hw hl => J23 ih hf hw hl
  unfold f_X12_feed at hf
  refine lv_aload_n hx hb dX12_feed_0 rfl (lv_at hl 0 rfl) ?_
  refine lv_iconst (v := 0) hx hb dX12_feed_1 (by decide) ?_
  obtain ⟨u_T_1, eu_T_1⟩ : ∃ z : S32, z = up2 u_T 0 2 (0 : Int32) := ⟨_, rfl⟩
  replace hf := tx_let_e hf eu_T_1
  refine pf_X12_145 (ws' := cl_X12 g a_T u_T_1 v_T ++ X) S hE hw rfl rfl 0 rfl (Nat.le_of_ble_eq_true rfl) (by rw [eu_T_1]; rfl) dX12_feed_2 (fun H locs hw => ?_)
  refine lv_aload_n hx hb dX12_feed_5 rfl (lv_at hl 0 rfl) ?_
  refine gf_X12_148 S hE hw 0 rfl rfl dX12_feed_6 ?_
  refine lv_bipush (v := 20) hx hb dX12_feed_9 (by decide) ?_
  refine lv_iadd hx hb dX12_feed_11 ?_
  refine lv_sipush (v := 700) hx hb dX12_feed_12 (by decide) ?_
  refine lv_icmp_le (tgt := 20) hx hb dX12_feed_15 (by decide) (fun h_2 => ?_) (fun h_2 => ?_)
  · replace hf := tx_pos hf h_2
    refine lv_iconst (v := 0) hx hb dX12_feed_20 (by decide) ?_
    refine lv_istore (lv' := [(6, .int (0 : Int32)), (0, .ref (a_T 0)), (1, .int x1), (2, .int x2), (3, .int x3), (4, .int x4), (5, .int x5)]) hx hb dX12_feed_21 hl (by decide) rfl (fun ls hl => ?_)
    exact L23 fu hf hw (lv_sub hl [1, 2, 3, 4, 5, 6, 0] rfl)
  · replace hf := tx_neg hf h_2
    refine lv_iconst (v := -1) hx hb dX12_feed_18 (by decide) ?_
    obtain ⟨e0, e1⟩ := tx_in2 hf
    rw [← e0, ← e1]
    exact tx_iret S hr hlk hw dX12_feed_19
def f_X12_isIn (fu : Nat) (x0 : Int32) (x1 : Int32) (x2 : Int32) : Option (Int32) := if x0 < x1 then (some (0 : Int32)) else (if x2 < x0 then (some (0 : Int32)) else (some (1 : Int32)))
set_option maxHeartbeats 4000000 in
set_option maxRecDepth 100000 in
theorem c_X12_isIn {l : Launch} {g : GG} {A : Nat → Prop} {X : va_W} {fu : Nat} {x0 : Int32} {x1 : Int32} {x2 : Int32} {r : Int32} (hf : f_X12_isIn fu  x0 x1 x2 = some r) : MI l yX12_isIn cX12_isIn 3 (some .boolean) 0 g A (X) [.int x0, .int x1, .int x2] r (X) := by
  refine tx_start (av := [.int x0, .int x1, .int x2]) (by decide) (Nat.le_of_ble_eq_true rfl) ?_
  intro p e s m below meth c ls S hr hlk hE hw hl
  have S : CallFix p m c cX12_isIn 3 s (List.toArray [.int x0, .int x1, .int x2]) (Cond.code yX12_isIn cX12_isIn 3 (some .boolean) :: allW) RX12 := S
  have hx := S.1
  have hb := S.2.1
  have hown := S.2.2.2.1
  have hts : ∀ w ∈ allW, w.before (List.toArray [.int x0, .int x1, .int x2]) s = true := fun w h => S.2.2.2.2 w (List.mem_cons_of_mem _ h)
  have hl : lv_has ls 3 [(0, .int x0), (1, .int x1), (2, .int x2)] := hl
  unfold f_X12_isIn at hf
  refine lv_iload_n hx hb dX12_isIn_0 rfl (lv_at hl 0 rfl) ?_
  refine lv_iload_n hx hb dX12_isIn_1 rfl (lv_at hl 1 rfl) ?_
  refine lv_icmp_lt (tgt := 14) hx hb dX12_isIn_2 (by decide) (fun h_1 => ?_) (fun h_1 => ?_)
  · replace hf := tx_pos hf h_1
    refine lv_iconst (v := 0) hx hb dX12_isIn_14 (by decide) ?_
    obtain e0 := tx_in1 hf
    rw [← e0]
    exact tx_zret S hr hlk (by decide) hw dX12_isIn_15
  · replace hf := tx_neg hf h_1
    refine lv_iload_n hx hb dX12_isIn_5 rfl (lv_at hl 0 rfl) ?_
    refine lv_iload_n hx hb dX12_isIn_6 rfl (lv_at hl 2 rfl) ?_
    refine lv_icmp_gt (tgt := 14) hx hb dX12_isIn_7 (by decide) (fun h_2 => ?_) (fun h_2 => ?_)
    · replace hf := tx_pos hf h_2
      refine lv_iconst (v := 0) hx hb dX12_isIn_14 (by decide) ?_
      obtain e0 := tx_in1 hf
      rw [← e0]
      exact tx_zret S hr hlk (by decide) hw dX12_isIn_15
    · replace hf := tx_neg hf h_2
      refine lv_iconst (v := 1) hx hb dX12_isIn_10 (by decide) ?_
      refine lv_goto (tgt := 15) hx hb dX12_isIn_11 (by decide) ?_
      obtain e0 := tx_in1 hf
      rw [← e0]
      exact tx_zret S hr hlk (by decide) hw dX12_isIn_15
def f_X12_isOf (fu : Nat) (x0 : Int32) (x1 : Int32) : Option (Int32) := if ((x0 >>> (x1 &&& 31)) &&& (1 : Int32)) = (1 : Int32) then (some (1 : Int32)) else (some (0 : Int32))
set_option maxHeartbeats 4000000 in
set_option maxRecDepth 100000 in
theorem c_X12_isOf {l : Launch} {g : GG} {A : Nat → Prop} {X : va_W} {fu : Nat} {x0 : Int32} {x1 : Int32} {r : Int32} (hf : f_X12_isOf fu  x0 x1 = some r) : MI l yX12_isOf cX12_isOf 2 (some .boolean) 0 g A (X) [.int x0, .int x1] r (X) := by
  refine tx_start (av := [.int x0, .int x1]) (by decide) (Nat.le_of_ble_eq_true rfl) ?_
  intro p e s m below meth c ls S hr hlk hE hw hl
  have S : CallFix p m c cX12_isOf 2 s (List.toArray [.int x0, .int x1]) (Cond.code yX12_isOf cX12_isOf 2 (some .boolean) :: allW) RX12 := S
  have hx := S.1
  have hb := S.2.1
  have hown := S.2.2.2.1
  have hts : ∀ w ∈ allW, w.before (List.toArray [.int x0, .int x1]) s = true := fun w h => S.2.2.2.2 w (List.mem_cons_of_mem _ h)
  have hl : lv_has ls 2 [(0, .int x0), (1, .int x1)] := hl
  unfold f_X12_isOf at hf
  refine lv_iload_n hx hb dX12_isOf_0 rfl (lv_at hl 0 rfl) ?_
  refine lv_iload_n hx hb dX12_isOf_1 rfl (lv_at hl 1 rfl) ?_
  refine lv_ishr hx hb dX12_isOf_2 ?_
  refine lv_iconst (v := 1) hx hb dX12_isOf_3 (by decide) ?_
  refine lv_iand hx hb dX12_isOf_4 ?_
  refine lv_iconst (v := 1) hx hb dX12_isOf_5 (by decide) ?_
  refine lv_icmp_ne (tgt := 13) hx hb dX12_isOf_6 (by decide) (fun h_1 => ?_) (fun h_1 => ?_)
  · replace hf := tx_neg hf h_1
    refine lv_iconst (v := 0) hx hb dX12_isOf_13 (by decide) ?_
    obtain e0 := tx_in1 hf
    rw [← e0]
    exact tx_zret S hr hlk (by decide) hw dX12_isOf_14
  · replace hf := tx_pos hf h_1
    refine lv_iconst (v := 1) hx hb dX12_isOf_9 (by decide) ?_
    refine lv_goto (tgt := 14) hx hb dX12_isOf_10 (by decide) ?_
    obtain e0 := tx_in1 hf
    rw [← e0]
    exact tx_zret S hr hlk (by decide) hw dX12_isOf_14
def f_X12_wrong (fu : Nat) (v_T : S64) (u_T : S32) (x1 : Int32) : Option (Int32 × S32) := tx_let (up2 u_T 0 4 x1) fun (u_T_1 : S32) => tx_let (up2 u_T_1 0 5 (u_T_1 0 10)) fun (u_T_2 : S32) => some ((0 : Int32), u_T_2)
set_option maxHeartbeats 4000000 in
set_option maxRecDepth 100000 in
theorem c_X12_wrong {l : Launch} {g : GG} {A : Nat → Prop} {X : va_W} {fu : Nat} {a_T : Nat → Nat} {u_T : S32} {v_T : S64} {x1 : Int32} {r : Int32} {zu_T : S32} (hf : f_X12_wrong fu v_T u_T x1 = some (r, zu_T)) : MI l yX12_wrong cX12_wrong 2 (some .boolean) 0 g A (cl_X12 g a_T u_T v_T ++ X) [.ref (a_T 0), .int x1] r (cl_X12 g a_T zu_T v_T ++ X) := by
  refine tx_start (av := [.ref (a_T 0), .int x1]) (by decide) (Nat.le_of_ble_eq_true rfl) ?_
  intro p e s m below meth c ls S hr hlk hE hw hl
  have S : CallFix p m c cX12_wrong 2 s (List.toArray [.ref (a_T 0), .int x1]) (Cond.code yX12_wrong cX12_wrong 2 (some .boolean) :: allW) RX12 := S
  have hx := S.1
  have hb := S.2.1
  have hown := S.2.2.2.1
  have hts : ∀ w ∈ allW, w.before (List.toArray [.ref (a_T 0), .int x1]) s = true := fun w h => S.2.2.2.2 w (List.mem_cons_of_mem _ h)
  have hl : lv_has ls 2 [(0, .ref (a_T 0)), (1, .int x1)] := hl
  unfold f_X12_wrong at hf
  refine lv_aload_n hx hb dX12_wrong_0 rfl (lv_at hl 0 rfl) ?_
  refine lv_iload_n hx hb dX12_wrong_1 rfl (lv_at hl 1 rfl) ?_
  obtain ⟨u_T_1, eu_T_1⟩ : ∃ z : S32, z = up2 u_T 0 4 x1 := ⟨_, rfl⟩
  replace hf := tx_let_e hf eu_T_1
  refine pf_X12_151 (ws' := cl_X12 g a_T u_T_1 v_T ++ X) S hE hw rfl rfl 0 rfl (Nat.le_of_ble_eq_true rfl) (by rw [eu_T_1]; rfl) dX12_wrong_2 (fun H locs hw => ?_)
  refine lv_aload_n hx hb dX12_wrong_5 rfl (lv_at hl 0 rfl) ?_
  refine lv_aload_n hx hb dX12_wrong_6 rfl (lv_at hl 0 rfl) ?_
  refine gf_X12_154 S hE hw 0 rfl rfl dX12_wrong_7 ?_
  obtain ⟨u_T_2, eu_T_2⟩ : ∃ z : S32, z = up2 u_T_1 0 5 (u_T_1 0 10) := ⟨_, rfl⟩
  replace hf := tx_let_e hf eu_T_2
  refine pf_X12_16 (ws' := cl_X12 g a_T u_T_2 v_T ++ X) S hE hw rfl rfl 0 rfl (Nat.le_of_ble_eq_true rfl) (by rw [eu_T_2]; rfl) dX12_wrong_10 (fun H locs hw => ?_)
  refine lv_iconst (v := 0) hx hb dX12_wrong_13 (by decide) ?_
  obtain ⟨e0, e1⟩ := tx_in2 hf
  rw [← e0, ← e1]
  exact tx_zret S hr hlk (by decide) hw dX12_wrong_14
def f_X12_wordAt_J96 (fu : Nat) (u_T : S32) (v_T : S64) (K5 : Int32 → Int32 → Int32 → Int32 → Option (Int32)) (K57 : Int32 → Int32 → Int32 → Int32 → Int32 → Int32 → Int32 → Option (Int32)) (w1 : Int32) (w2 : Int32) (w3 : Int32) (w4 : Int32) (w5 : Int32) (w7 : Int32) (t0 : Int32) : Option (Int32) := tx_let (w7 + (1 : Int32)) fun (y_14 : Int32) => K57 w1 w2 w3 w4 w5 t0 y_14
def f_X12_wordAt_J104 (fu : Nat) (u_T : S32) (v_T : S64) (K5 : Int32 → Int32 → Int32 → Int32 → Option (Int32)) (w1 : Int32) (w2 : Int32) (w3 : Int32) (w4 : Int32) (w5 : Int32) (w6 : Int32) : Option (Int32) := if w6 = (0 : Int32) then (tx_let (w4 + (w5 + (1 : Int32))) fun (y_12 : Int32) => tx_let (w3 + (1 : Int32)) fun (y_13 : Int32) => K5 w1 w2 y_13 y_12) else (some w3)
def f_X12_wordAt_J57 (fu : Nat) (u_T : S32) (v_T : S64) (K5 : Int32 → Int32 → Int32 → Int32 → Option (Int32)) (K57 : Int32 → Int32 → Int32 → Int32 → Int32 → Int32 → Int32 → Option (Int32)) (w1 : Int32) (w2 : Int32) (w3 : Int32) (w4 : Int32) (w5 : Int32) (w6 : Int32) (w7 : Int32) : Option (Int32) := if w5 ≤ w7 then (f_X12_wordAt_J104 fu u_T v_T K5 w1 w2 w3 w4 w5 w6) else (if w6 = (0 : Int32) then (f_X12_wordAt_J104 fu u_T v_T K5 w1 w2 w3 w4 w5 w6) else (tx_ck (w4 + w7) 105 <| tx_ck (w1 + w7) 700 <| if (u_T 4 (w4 + w7).toNatClampNeg) = (u_T 1 (w1 + w7).toNatClampNeg) then (f_X12_wordAt_J96 fu u_T v_T K5 K57 w1 w2 w3 w4 w5 w7 (1 : Int32)) else (f_X12_wordAt_J96 fu u_T v_T K5 K57 w1 w2 w3 w4 w5 w7 (0 : Int32))))
def f_X12_wordAt_L57 (fu : Nat) (u_T : S32) (v_T : S64) (K5 : Int32 → Int32 → Int32 → Int32 → Option (Int32)) : Nat → Int32 → Int32 → Int32 → Int32 → Int32 → Int32 → Int32 → Option (Int32)
  | 0 => fun _ _ _ _ _ _ _ => none
  | n + 1 => f_X12_wordAt_J57 fu u_T v_T K5 (f_X12_wordAt_L57 fu u_T v_T K5 n)
def f_X12_wordAt_J52 (fu : Nat) (u_T : S32) (v_T : S64) (K5 : Int32 → Int32 → Int32 → Int32 → Option (Int32)) (w1 : Int32) (w2 : Int32) (w3 : Int32) (w4 : Int32) (w5 : Int32) (t0 : Int32) : Option (Int32) := f_X12_wordAt_L57 fu u_T v_T K5 fu w1 w2 w3 w4 w5 t0 (0 : Int32)
def f_X12_wordAt_J18 (fu : Nat) (u_T : S32) (v_T : S64) (K5 : Int32 → Int32 → Int32 → Int32 → Option (Int32)) (K18 : Int32 → Int32 → Int32 → Int32 → Int32 → Option (Int32)) (w1 : Int32) (w2 : Int32) (w3 : Int32) (w4 : Int32) (w5 : Int32) : Option (Int32) := tx_ck (w4 + w5) 105 <| if (u_T 4 (w4 + w5).toNatClampNeg) = (32 : Int32) then (if w5 = (w2 - w1) then (f_X12_wordAt_J52 fu u_T v_T K5 w1 w2 w3 w4 w5 (1 : Int32)) else (f_X12_wordAt_J52 fu u_T v_T K5 w1 w2 w3 w4 w5 (0 : Int32))) else (tx_let (w5 + (1 : Int32)) fun (y_5 : Int32) => K18 w1 w2 w3 w4 y_5)
def f_X12_wordAt_L18 (fu : Nat) (u_T : S32) (v_T : S64) (K5 : Int32 → Int32 → Int32 → Int32 → Option (Int32)) : Nat → Int32 → Int32 → Int32 → Int32 → Int32 → Option (Int32)
  | 0 => fun _ _ _ _ _ => none
  | n + 1 => f_X12_wordAt_J18 fu u_T v_T K5 (f_X12_wordAt_L18 fu u_T v_T K5 n)
def f_X12_wordAt_J5 (fu : Nat) (u_T : S32) (v_T : S64) (K5 : Int32 → Int32 → Int32 → Int32 → Option (Int32)) (w1 : Int32) (w2 : Int32) (w3 : Int32) (w4 : Int32) : Option (Int32) := if (105 : Int32) ≤ w4 then (some (-1 : Int32)) else (f_X12_wordAt_L18 fu u_T v_T K5 fu w1 w2 w3 w4 (0 : Int32))
def f_X12_wordAt_L5 (fu : Nat) (u_T : S32) (v_T : S64) : Nat → Int32 → Int32 → Int32 → Int32 → Option (Int32)
  | 0 => fun _ _ _ _ => none
  | n + 1 => f_X12_wordAt_J5 fu u_T v_T (f_X12_wordAt_L5 fu u_T v_T n)
def f_X12_wordAt (fu : Nat) (u_T : S32) (v_T : S64) (x1 : Int32) (x2 : Int32) : Option (Int32) := f_X12_wordAt_L5 fu u_T v_T fu x1 x2 (0 : Int32) (0 : Int32)
set_option maxHeartbeats 4000000 in
set_option maxRecDepth 100000 in
theorem c_X12_wordAt {l : Launch} {g : GG} {A : Nat → Prop} {X : va_W} {fu : Nat} {a_T : Nat → Nat} {u_T : S32} {v_T : S64} {x1 : Int32} {x2 : Int32} {r : Int32} (hf : f_X12_wordAt fu u_T v_T x1 x2 = some r) : MI l yX12_wordAt cX12_wordAt 8 (some .int) 0 g A (cl_X12 g a_T u_T v_T ++ X) [.ref (a_T 0), .int x1, .int x2] r (cl_X12 g a_T u_T v_T ++ X) := by
  refine tx_start (av := [.ref (a_T 0), .int x1, .int x2]) (by decide) (Nat.le_of_ble_eq_true rfl) ?_
  intro p e s m below meth c ls S hr hlk hE hw hl
  have S : CallFix p m c cX12_wordAt 8 s (List.toArray [.ref (a_T 0), .int x1, .int x2]) (Cond.code yX12_wordAt cX12_wordAt 8 (some .int) :: allW) RX12 := S
  have hx := S.1
  have hb := S.2.1
  have hown := S.2.2.2.1
  have hts : ∀ w ∈ allW, w.before (List.toArray [.ref (a_T 0), .int x1, .int x2]) s = true := fun w h => S.2.2.2.2 w (List.mem_cons_of_mem _ h)
  have hl : lv_has ls 8 [(0, .ref (a_T 0)), (1, .int x1), (2, .int x2)] := hl
  have J96 : ∀ {K5 : Int32 → Int32 → Int32 → Int32 → Option (Int32)} (hK5 : ∀ {w1 : Int32} {w2 : Int32} {w3 : Int32} {w4 : Int32} {H : Heap} {locs : List Loc} {ls : Array Slot}, K5 w1 w2 w3 w4 = some r → WD g A s.heap (cl_X12 g a_T u_T v_T ++ X) H locs → lv_has ls 8 [(0, .ref (a_T 0)), (1, .int w1), (2, .int w2), (3, .int w3), (4, .int w4)] → W p l e (rmH 0) s m (List.toArray [.ref (a_T 0), .int x1, .int x2]) below meth c H locs 0 0 (MQ below (va_Qi (fun r2 (_ : Unit) => r2 = r) (fun _ t => POST g A (cl_X12 g a_T u_T v_T ++ X) t) A) (List.toArray [.ref (a_T 0), .int x1, .int x2]) s 0 0 A) (F0 m 5 ls [])) {K57 : Int32 → Int32 → Int32 → Int32 → Int32 → Int32 → Int32 → Option (Int32)} (hK57 : ∀ {w1 : Int32} {w2 : Int32} {w3 : Int32} {w4 : Int32} {w5 : Int32} {w6 : Int32} {w7 : Int32} {H : Heap} {locs : List Loc} {ls : Array Slot}, K57 w1 w2 w3 w4 w5 w6 w7 = some r → WD g A s.heap (cl_X12 g a_T u_T v_T ++ X) H locs → lv_has ls 8 [(0, .ref (a_T 0)), (1, .int w1), (2, .int w2), (3, .int w3), (4, .int w4), (5, .int w5), (6, .int w6), (7, .int w7)] → W p l e (rmH 0) s m (List.toArray [.ref (a_T 0), .int x1, .int x2]) below meth c H locs 0 0 (MQ below (va_Qi (fun r2 (_ : Unit) => r2 = r) (fun _ t => POST g A (cl_X12 g a_T u_T v_T ++ X) t) A) (List.toArray [.ref (a_T 0), .int x1, .int x2]) s 0 0 A) (F0 m 57 ls [])), ∀ {w1 : Int32} {w2 : Int32} {w3 : Int32} {w4 : Int32} {w5 : Int32} {w7 : Int32} {t0 : Int32} {H : Heap} {locs : List Loc} {ls : Array Slot}, f_X12_wordAt_J96 fu u_T v_T K5 K57 w1 w2 w3 w4 w5 w7 t0 = some r → WD g A s.heap (cl_X12 g a_T u_T v_T ++ X) H locs → lv_has ls 8 [(0, .ref (a_T 0)), (1, .int w1), (2, .int w2), (3, .int w3), (4, .int w4), (5, .int w5), (7, .int w7)] → W p l e (rmH 0) s m (List.toArray [.ref (a_T 0), .int x1, .int x2]) below meth c H locs 0 0 (MQ below (va_Qi (fun r2 (_ : Unit) => r2 = r) (fun _ t => POST g A (cl_X12 g a_T u_T v_T ++ X) t) A) (List.toArray [.ref (a_T 0), .int x1, .int x2]) s 0 0 A) (F0 m 96 ls [.int t0]) := by
    intro K5 hK5 K57 hK57 w1 w2 w3 w4 w5 w7 t0 H locs ls hf hw hl
    unfold f_X12_wordAt_J96 at hf
    refine lv_istore (lv' := [(6, .int t0), (0, .ref (a_T 0)), (1, .int w1), (2, .int w2), (3, .int w3), (4, .int w4), (5, .int w5), (7, .int w7)]) hx hb dX12_wordAt_96 hl (by decide) rfl (fun ls hl => ?_)
    obtain ⟨y_14, ey_14⟩ : ∃ y : Int32, y = w7 + (1 : Int32) := ⟨_, rfl⟩
    replace hf := tx_let_e hf ey_14
    refine lv_iinc (v := y_14) (lv' := [(7, .int y_14), (6, .int t0), (0, .ref (a_T 0)), (1, .int w1), (2, .int w2), (3, .int w3), (4, .int w4), (5, .int w5)]) hx hb dX12_wordAt_98 hl (k := 7) rfl (by rw [ey_14]; rfl) (by decide) rfl (fun ls hl => ?_)
    refine lv_goto (tgt := 57) hx hb dX12_wordAt_101 (by decide) ?_
    exact hK57 hf hw (lv_sub hl [2, 3, 4, 5, 6, 7, 1, 0] rfl)
  have J104 : ∀ {K5 : Int32 → Int32 → Int32 → Int32 → Option (Int32)} (hK5 : ∀ {w1 : Int32} {w2 : Int32} {w3 : Int32} {w4 : Int32} {H : Heap} {locs : List Loc} {ls : Array Slot}, K5 w1 w2 w3 w4 = some r → WD g A s.heap (cl_X12 g a_T u_T v_T ++ X) H locs → lv_has ls 8 [(0, .ref (a_T 0)), (1, .int w1), (2, .int w2), (3, .int w3), (4, .int w4)] → W p l e (rmH 0) s m (List.toArray [.ref (a_T 0), .int x1, .int x2]) below meth c H locs 0 0 (MQ below (va_Qi (fun r2 (_ : Unit) => r2 = r) (fun _ t => POST g A (cl_X12 g a_T u_T v_T ++ X) t) A) (List.toArray [.ref (a_T 0), .int x1, .int x2]) s 0 0 A) (F0 m 5 ls [])), ∀ {w1 : Int32} {w2 : Int32} {w3 : Int32} {w4 : Int32} {w5 : Int32} {w6 : Int32} {H : Heap} {locs : List Loc} {ls : Array Slot}, f_X12_wordAt_J104 fu u_T v_T K5 w1 w2 w3 w4 w5 w6 = some r → WD g A s.heap (cl_X12 g a_T u_T v_T ++ X) H locs → lv_has ls 8 [(0, .ref (a_T 0)), (1, .int w1), (2, .int w2), (3, .int w3), (4, .int w4), (5, .int w5), (6, .int w6)] → W p l e (rmH 0) s m (List.toArray [.ref (a_T 0), .int x1, .int x2]) below meth c H locs 0 0 (MQ below (va_Qi (fun r2 (_ : Unit) => r2 = r) (fun _ t => POST g A (cl_X12 g a_T u_T v_T ++ X) t) A) (List.toArray [.ref (a_T 0), .int x1, .int x2]) s 0 0 A) (F0 m 104 ls []) := by
    intro K5 hK5 w1 w2 w3 w4 w5 w6 H locs ls hf hw hl
    unfold f_X12_wordAt_J104 at hf
    refine lv_iload hx hb dX12_wordAt_104 (lv_at hl 6 rfl) ?_
    refine lv_if_eq (tgt := 111) hx hb dX12_wordAt_106 (by decide) (fun h_11 => ?_) (fun h_11 => ?_)
    · replace hf := tx_pos hf h_11
      refine lv_iload hx hb dX12_wordAt_111 (lv_at hl 4 rfl) ?_
      refine lv_iload hx hb dX12_wordAt_113 (lv_at hl 5 rfl) ?_
      refine lv_iconst (v := 1) hx hb dX12_wordAt_115 (by decide) ?_
      refine lv_iadd hx hb dX12_wordAt_116 ?_
      refine lv_iadd hx hb dX12_wordAt_117 ?_
      refine lv_topi (fun y_12 ey_12 => ?_)
      replace hf := tx_let_e hf ey_12
      refine lv_istore (lv' := [(4, .int y_12), (0, .ref (a_T 0)), (1, .int w1), (2, .int w2), (3, .int w3), (5, .int w5), (6, .int w6)]) hx hb dX12_wordAt_118 hl (by decide) rfl (fun ls hl => ?_)
      obtain ⟨y_13, ey_13⟩ : ∃ y : Int32, y = w3 + (1 : Int32) := ⟨_, rfl⟩
      replace hf := tx_let_e hf ey_13
      refine lv_iinc (v := y_13) (lv' := [(3, .int y_13), (4, .int y_12), (0, .ref (a_T 0)), (1, .int w1), (2, .int w2), (5, .int w5), (6, .int w6)]) hx hb dX12_wordAt_120 hl (k := 4) rfl (by rw [ey_13]; rfl) (by decide) rfl (fun ls hl => ?_)
      refine lv_goto (tgt := 5) hx hb dX12_wordAt_123 (by decide) ?_
      exact hK5 hf hw (lv_sub hl [2, 3, 4, 0, 1] rfl)
    · replace hf := tx_neg hf h_11
      refine lv_iload_n hx hb dX12_wordAt_109 rfl (lv_at hl 3 rfl) ?_
      obtain e0 := tx_in1 hf
      rw [← e0]
      exact tx_iret S hr hlk hw dX12_wordAt_110
  have J57 : ∀ {K5 : Int32 → Int32 → Int32 → Int32 → Option (Int32)} (hK5 : ∀ {w1 : Int32} {w2 : Int32} {w3 : Int32} {w4 : Int32} {H : Heap} {locs : List Loc} {ls : Array Slot}, K5 w1 w2 w3 w4 = some r → WD g A s.heap (cl_X12 g a_T u_T v_T ++ X) H locs → lv_has ls 8 [(0, .ref (a_T 0)), (1, .int w1), (2, .int w2), (3, .int w3), (4, .int w4)] → W p l e (rmH 0) s m (List.toArray [.ref (a_T 0), .int x1, .int x2]) below meth c H locs 0 0 (MQ below (va_Qi (fun r2 (_ : Unit) => r2 = r) (fun _ t => POST g A (cl_X12 g a_T u_T v_T ++ X) t) A) (List.toArray [.ref (a_T 0), .int x1, .int x2]) s 0 0 A) (F0 m 5 ls [])) {K57 : Int32 → Int32 → Int32 → Int32 → Int32 → Int32 → Int32 → Option (Int32)} (hK57 : ∀ {w1 : Int32} {w2 : Int32} {w3 : Int32} {w4 : Int32} {w5 : Int32} {w6 : Int32} {w7 : Int32} {H : Heap} {locs : List Loc} {ls : Array Slot}, K57 w1 w2 w3 w4 w5 w6 w7 = some r → WD g A s.heap (cl_X12 g a_T u_T v_T ++ X) H locs → lv_has ls 8 [(0, .ref (a_T 0)), (1, .int w1), (2, .int w2), (3, .int w3), (4, .int w4), (5, .int w5), (6, .int w6), (7, .int w7)] → W p l e (rmH 0) s m (List.toArray [.ref (a_T 0), .int x1, .int x2]) below meth c H locs 0 0 (MQ below (va_Qi (fun r2 (_ : Unit) => r2 = r) (fun _ t => POST g A (cl_X12 g a_T u_T v_T ++ X) t) A) (List.toArray [.ref (a_T 0), .int x1, .int x2]) s 0 0 A) (F0 m 57 ls [])), ∀ {w1 : Int32} {w2 : Int32} {w3 : Int32} {w4 : Int32} {w5 : Int32} {w6 : Int32} {w7 : Int32} {H : Heap} {locs : List Loc} {ls : Array Slot}, f_X12_wordAt_J57 fu u_T v_T K5 K57 w1 w2 w3 w4 w5 w6 w7 = some r → WD g A s.heap (cl_X12 g a_T u_T v_T ++ X) H locs → lv_has ls 8 [(0, .ref (a_T 0)), (1, .int w1), (2, .int w2), (3, .int w3), (4, .int w4), (5, .int w5), (6, .int w6), (7, .int w7)] → W p l e (rmH 0) s m (List.toArray [.ref (a_T 0), .int x1, .int x2]) below meth c H locs 0 0 (MQ below (va_Qi (fun r2 (_ : Unit) => r2 = r) (fun _ t => POST g A (cl_X12 g a_T u_T v_T ++ X) t) A) (List.toArray [.ref (a_T 0), .int x1, .int x2]) s 0 0 A) (F0 m 57 ls []) := by
    intro K5 hK5 K57 hK57 w1 w2 w3 w4 w5 w6 w7 H locs ls hf hw hl
    unfold f_X12_wordAt_J57 at hf
    refine lv_iload hx hb dX12_wordAt_57 (lv_at hl 7 rfl) ?_
    refine lv_iload hx hb dX12_wordAt_59 (lv_at hl 5 rfl) ?_
    refine lv_icmp_ge (tgt := 104) hx hb dX12_wordAt_61 (by decide) (fun h_6 => ?_) (fun h_6 => ?_)
    · replace hf := tx_pos hf h_6
      exact J104 hK5 hf hw (lv_sub hl [0, 1, 2, 3, 4, 5, 6] rfl)
    · replace hf := tx_neg hf h_6
      refine lv_iload hx hb dX12_wordAt_64 (lv_at hl 6 rfl) ?_
      refine lv_if_eq (tgt := 104) hx hb dX12_wordAt_66 (by decide) (fun h_7 => ?_) (fun h_7 => ?_)
      · replace hf := tx_pos hf h_7
        exact J104 hK5 hf hw (lv_sub hl [0, 1, 2, 3, 4, 5, 6] rfl)
      · replace hf := tx_neg hf h_7
        refine lv_aload_n hx hb dX12_wordAt_69 rfl (lv_at hl 0 rfl) ?_
        refine gf_X12_13 S hE hw 0 rfl rfl dX12_wordAt_70 ?_
        refine lv_iload hx hb dX12_wordAt_73 (lv_at hl 4 rfl) ?_
        refine lv_iload hx hb dX12_wordAt_75 (lv_at hl 7 rfl) ?_
        refine lv_iadd hx hb dX12_wordAt_77 ?_
        obtain ⟨h_8, hf⟩ := tx_ck_e hf
        refine tx_iald S hE hw 2 rfl h_8 dX12_wordAt_78 ?_
        refine lv_aload_n hx hb dX12_wordAt_79 rfl (lv_at hl 0 rfl) ?_
        refine gf_X12_7 S hE hw 0 rfl rfl dX12_wordAt_80 ?_
        refine lv_iload_n hx hb dX12_wordAt_83 rfl (lv_at hl 1 rfl) ?_
        refine lv_iload hx hb dX12_wordAt_84 (lv_at hl 7 rfl) ?_
        refine lv_iadd hx hb dX12_wordAt_86 ?_
        obtain ⟨h_9, hf⟩ := tx_ck_e hf
        refine tx_iald S hE hw 1 rfl h_9 dX12_wordAt_87 ?_
        refine lv_icmp_ne (tgt := 95) hx hb dX12_wordAt_88 (by decide) (fun h_10 => ?_) (fun h_10 => ?_)
        · replace hf := tx_neg hf h_10
          refine lv_iconst (v := 0) hx hb dX12_wordAt_95 (by decide) ?_
          exact J96 hK5 hK57 hf hw (lv_sub hl [0, 1, 2, 3, 4, 5, 7] rfl)
        · replace hf := tx_pos hf h_10
          refine lv_iconst (v := 1) hx hb dX12_wordAt_91 (by decide) ?_
          refine lv_goto (tgt := 96) hx hb dX12_wordAt_92 (by decide) ?_
          exact J96 hK5 hK57 hf hw (lv_sub hl [0, 1, 2, 3, 4, 5, 7] rfl)
  have L57 : ∀ {K5 : Int32 → Int32 → Int32 → Int32 → Option (Int32)} (hK5 : ∀ {w1 : Int32} {w2 : Int32} {w3 : Int32} {w4 : Int32} {H : Heap} {locs : List Loc} {ls : Array Slot}, K5 w1 w2 w3 w4 = some r → WD g A s.heap (cl_X12 g a_T u_T v_T ++ X) H locs → lv_has ls 8 [(0, .ref (a_T 0)), (1, .int w1), (2, .int w2), (3, .int w3), (4, .int w4)] → W p l e (rmH 0) s m (List.toArray [.ref (a_T 0), .int x1, .int x2]) below meth c H locs 0 0 (MQ below (va_Qi (fun r2 (_ : Unit) => r2 = r) (fun _ t => POST g A (cl_X12 g a_T u_T v_T ++ X) t) A) (List.toArray [.ref (a_T 0), .int x1, .int x2]) s 0 0 A) (F0 m 5 ls [])), ∀ (n : Nat), ∀ {w1 : Int32} {w2 : Int32} {w3 : Int32} {w4 : Int32} {w5 : Int32} {w6 : Int32} {w7 : Int32} {H : Heap} {locs : List Loc} {ls : Array Slot}, f_X12_wordAt_L57 fu u_T v_T K5 n w1 w2 w3 w4 w5 w6 w7 = some r → WD g A s.heap (cl_X12 g a_T u_T v_T ++ X) H locs → lv_has ls 8 [(0, .ref (a_T 0)), (1, .int w1), (2, .int w2), (3, .int w3), (4, .int w4), (5, .int w5), (6, .int w6), (7, .int w7)] → W p l e (rmH 0) s m (List.toArray [.ref (a_T 0), .int x1, .int x2]) below meth c H locs 0 0 (MQ below (va_Qi (fun r2 (_ : Unit) => r2 = r) (fun _ t => POST g A (cl_X12 g a_T u_T v_T ++ X) t) A) (List.toArray [.ref (a_T 0), .int x1, .int x2]) s 0 0 A) (F0 m 57 ls []) := by
    intro K5 hK5 n
    induction n with
    | zero => intro w1 w2 w3 w4 w5 w6 w7 H locs ls hf; exact absurd hf (by intro q; cases q)
    | succ n ih => exact fun hf hw hl => J57 hK5 ih hf hw hl
  have J52 : ∀ {K5 : Int32 → Int32 → Int32 → Int32 → Option (Int32)} (hK5 : ∀ {w1 : Int32} {w2 : Int32} {w3 : Int32} {w4 : Int32} {H : Heap} {locs : List Loc} {ls : Array Slot}, K5 w1 w2 w3 w4 = some r → WD g A s.heap (cl_X12 g a_T u_T v_T ++ X) H locs → lv_has ls 8 [(0, .ref (a_T 0)), (1, .int w1), (2, .int w2), (3, .int w3), (4, .int w4)] → W p l e (rmH 0) s m (List.toArray [.ref (a_T 0), .int x1, .int x2]) below meth c H locs 0 0 (MQ below (va_Qi (fun r2 (_ : Unit) => r2 = r) (fun _ t => POST g A (cl_X12 g a_T u_T v_T ++ X) t) A) (List.toArray [.ref (a_T 0), .int x1, .int x2]) s 0 0 A) (F0 m 5 ls [])), ∀ {w1 : Int32} {w2 : Int32} {w3 : Int32} {w4 : Int32} {w5 : Int32} {t0 : Int32} {H : Heap} {locs : List Loc} {ls : Array Slot}, f_X12_wordAt_J52 fu u_T v_T K5 w1 w2 w3 w4 w5 t0 = some r → WD g A s.heap (cl_X12 g a_T u_T v_T ++ X) H locs → lv_has ls 8 [(0, .ref (a_T 0)), (1, .int w1), (2, .int w2), (3, .int w3), (4, .int w4), (5, .int w5)] → W p l e (rmH 0) s m (List.toArray [.ref (a_T 0), .int x1, .int x2]) below meth c H locs 0 0 (MQ below (va_Qi (fun r2 (_ : Unit) => r2 = r) (fun _ t => POST g A (cl_X12 g a_T u_T v_T ++ X) t) A) (List.toArray [.ref (a_T 0), .int x1, .int x2]) s 0 0 A) (F0 m 52 ls [.int t0]) := by
    intro K5 hK5 w1 w2 w3 w4 w5 t0 H locs ls hf hw hl
    unfold f_X12_wordAt_J52 at hf
    refine lv_istore (lv' := [(6, .int t0), (0, .ref (a_T 0)), (1, .int w1), (2, .int w2), (3, .int w3), (4, .int w4), (5, .int w5)]) hx hb dX12_wordAt_52 hl (by decide) rfl (fun ls hl => ?_)
    refine lv_iconst (v := 0) hx hb dX12_wordAt_54 (by decide) ?_
    refine lv_istore (lv' := [(7, .int (0 : Int32)), (6, .int t0), (0, .ref (a_T 0)), (1, .int w1), (2, .int w2), (3, .int w3), (4, .int w4), (5, .int w5)]) hx hb dX12_wordAt_55 hl (by decide) rfl (fun ls hl => ?_)
    exact L57 hK5 fu hf hw (lv_sub hl [2, 3, 4, 5, 6, 7, 1, 0] rfl)
  have J18 : ∀ {K5 : Int32 → Int32 → Int32 → Int32 → Option (Int32)} (hK5 : ∀ {w1 : Int32} {w2 : Int32} {w3 : Int32} {w4 : Int32} {H : Heap} {locs : List Loc} {ls : Array Slot}, K5 w1 w2 w3 w4 = some r → WD g A s.heap (cl_X12 g a_T u_T v_T ++ X) H locs → lv_has ls 8 [(0, .ref (a_T 0)), (1, .int w1), (2, .int w2), (3, .int w3), (4, .int w4)] → W p l e (rmH 0) s m (List.toArray [.ref (a_T 0), .int x1, .int x2]) below meth c H locs 0 0 (MQ below (va_Qi (fun r2 (_ : Unit) => r2 = r) (fun _ t => POST g A (cl_X12 g a_T u_T v_T ++ X) t) A) (List.toArray [.ref (a_T 0), .int x1, .int x2]) s 0 0 A) (F0 m 5 ls [])) {K18 : Int32 → Int32 → Int32 → Int32 → Int32 → Option (Int32)} (hK18 : ∀ {w1 : Int32} {w2 : Int32} {w3 : Int32} {w4 : Int32} {w5 : Int32} {H : Heap} {locs : List Loc} {ls : Array Slot}, K18 w1 w2 w3 w4 w5 = some r → WD g A s.heap (cl_X12 g a_T u_T v_T ++ X) H locs → lv_has ls 8 [(0, .ref (a_T 0)), (1, .int w1), (2, .int w2), (3, .int w3), (4, .int w4), (5, .int w5)] → W p l e (rmH 0) s m (List.toArray [.ref (a_T 0), .int x1, .int x2]) below meth c H locs 0 0 (MQ below (va_Qi (fun r2 (_ : Unit) => r2 = r) (fun _ t => POST g A (cl_X12 g a_T u_T v_T ++ X) t) A) (List.toArray [.ref (a_T 0), .int x1, .int x2]) s 0 0 A) (F0 m 18 ls [])), ∀ {w1 : Int32} {w2 : Int32} {w3 : Int32} {w4 : Int32} {w5 : Int32} {H : Heap} {locs : List Loc} {ls : Array Slot}, f_X12_wordAt_J18 fu u_T v_T K5 K18 w1 w2 w3 w4 w5 = some r → WD g A s.heap (cl_X12 g a_T u_T v_T ++ X) H locs → lv_has ls 8 [(0, .ref (a_T 0)), (1, .int w1), (2, .int w2), (3, .int w3), (4, .int w4), (5, .int w5)] → W p l e (rmH 0) s m (List.toArray [.ref (a_T 0), .int x1, .int x2]) below meth c H locs 0 0 (MQ below (va_Qi (fun r2 (_ : Unit) => r2 = r) (fun _ t => POST g A (cl_X12 g a_T u_T v_T ++ X) t) A) (List.toArray [.ref (a_T 0), .int x1, .int x2]) s 0 0 A) (F0 m 18 ls []) := by
    intro K5 hK5 K18 hK18 w1 w2 w3 w4 w5 H locs ls hf hw hl
    unfold f_X12_wordAt_J18 at hf
    refine lv_aload_n hx hb dX12_wordAt_18 rfl (lv_at hl 0 rfl) ?_
    refine gf_X12_13 S hE hw 0 rfl rfl dX12_wordAt_19 ?_
    refine lv_iload hx hb dX12_wordAt_22 (lv_at hl 4 rfl) ?_
    refine lv_iload hx hb dX12_wordAt_24 (lv_at hl 5 rfl) ?_
    refine lv_iadd hx hb dX12_wordAt_26 ?_
    obtain ⟨h_2, hf⟩ := tx_ck_e hf
    refine tx_iald S hE hw 2 rfl h_2 dX12_wordAt_27 ?_
    refine lv_bipush (v := 32) hx hb dX12_wordAt_28 (by decide) ?_
    refine lv_icmp_eq (tgt := 39) hx hb dX12_wordAt_30 (by decide) (fun h_3 => ?_) (fun h_3 => ?_)
    · replace hf := tx_pos hf h_3
      refine lv_iload hx hb dX12_wordAt_39 (lv_at hl 5 rfl) ?_
      refine lv_iload_n hx hb dX12_wordAt_41 rfl (lv_at hl 2 rfl) ?_
      refine lv_iload_n hx hb dX12_wordAt_42 rfl (lv_at hl 1 rfl) ?_
      refine lv_isub hx hb dX12_wordAt_43 ?_
      refine lv_icmp_ne (tgt := 51) hx hb dX12_wordAt_44 (by decide) (fun h_4 => ?_) (fun h_4 => ?_)
      · replace hf := tx_neg hf h_4
        refine lv_iconst (v := 0) hx hb dX12_wordAt_51 (by decide) ?_
        exact J52 hK5 hf hw (lv_sub hl [0, 1, 2, 3, 4, 5] rfl)
      · replace hf := tx_pos hf h_4
        refine lv_iconst (v := 1) hx hb dX12_wordAt_47 (by decide) ?_
        refine lv_goto (tgt := 52) hx hb dX12_wordAt_48 (by decide) ?_
        exact J52 hK5 hf hw (lv_sub hl [0, 1, 2, 3, 4, 5] rfl)
    · replace hf := tx_neg hf h_3
      obtain ⟨y_5, ey_5⟩ : ∃ y : Int32, y = w5 + (1 : Int32) := ⟨_, rfl⟩
      replace hf := tx_let_e hf ey_5
      refine lv_iinc (v := y_5) (lv' := [(5, .int y_5), (0, .ref (a_T 0)), (1, .int w1), (2, .int w2), (3, .int w3), (4, .int w4)]) hx hb dX12_wordAt_33 hl (k := 5) rfl (by rw [ey_5]; rfl) (by decide) rfl (fun ls hl => ?_)
      refine lv_goto (tgt := 18) hx hb dX12_wordAt_36 (by decide) ?_
      exact hK18 hf hw (lv_sub hl [1, 2, 3, 4, 5, 0] rfl)
  have L18 : ∀ {K5 : Int32 → Int32 → Int32 → Int32 → Option (Int32)} (hK5 : ∀ {w1 : Int32} {w2 : Int32} {w3 : Int32} {w4 : Int32} {H : Heap} {locs : List Loc} {ls : Array Slot}, K5 w1 w2 w3 w4 = some r → WD g A s.heap (cl_X12 g a_T u_T v_T ++ X) H locs → lv_has ls 8 [(0, .ref (a_T 0)), (1, .int w1), (2, .int w2), (3, .int w3), (4, .int w4)] → W p l e (rmH 0) s m (List.toArray [.ref (a_T 0), .int x1, .int x2]) below meth c H locs 0 0 (MQ below (va_Qi (fun r2 (_ : Unit) => r2 = r) (fun _ t => POST g A (cl_X12 g a_T u_T v_T ++ X) t) A) (List.toArray [.ref (a_T 0), .int x1, .int x2]) s 0 0 A) (F0 m 5 ls [])), ∀ (n : Nat), ∀ {w1 : Int32} {w2 : Int32} {w3 : Int32} {w4 : Int32} {w5 : Int32} {H : Heap} {locs : List Loc} {ls : Array Slot}, f_X12_wordAt_L18 fu u_T v_T K5 n w1 w2 w3 w4 w5 = some r → WD g A s.heap (cl_X12 g a_T u_T v_T ++ X) H locs → lv_has ls 8 [(0, .ref (a_T 0)), (1, .int w1), (2, .int w2), (3, .int w3), (4, .int w4), (5, .int w5)] → W p l e (rmH 0) s m (List.toArray [.ref (a_T 0), .int x1, .int x2]) below meth c H locs 0 0 (MQ below (va_Qi (fun r2 (_ : Unit) => r2 = r) (fun _ t => POST g A (cl_X12 g a_T u_T v_T ++ X) t) A) (List.toArray [.ref (a_T 0), .int x1, .int x2]) s 0 0 A) (F0 m 18 ls []) := by
    intro K5 hK5 n
    induction n with
    | zero => intro w1 w2 w3 w4 w5 H locs ls hf; exact absurd hf (by intro q; cases q)
    | succ n ih => exact fun hf hw hl => J18 hK5 ih hf hw hl
  have J5 : ∀ {K5 : Int32 → Int32 → Int32 → Int32 → Option (Int32)} (hK5 : ∀ {w1 : Int32} {w2 : Int32} {w3 : Int32} {w4 : Int32} {H : Heap} {locs : List Loc} {ls : Array Slot}, K5 w1 w2 w3 w4 = some r → WD g A s.heap (cl_X12 g a_T u_T v_T ++ X) H locs → lv_has ls 8 [(0, .ref (a_T 0)), (1, .int w1), (2, .int w2), (3, .int w3), (4, .int w4)] → W p l e (rmH 0) s m (List.toArray [.ref (a_T 0), .int x1, .int x2]) below meth c H locs 0 0 (MQ below (va_Qi (fun r2 (_ : Unit) => r2 = r) (fun _ t => POST g A (cl_X12 g a_T u_T v_T ++ X) t) A) (List.toArray [.ref (a_T 0), .int x1, .int x2]) s 0 0 A) (F0 m 5 ls [])), ∀ {w1 : Int32} {w2 : Int32} {w3 : Int32} {w4 : Int32} {H : Heap} {locs : List Loc} {ls : Array Slot}, f_X12_wordAt_J5 fu u_T v_T K5 w1 w2 w3 w4 = some r → WD g A s.heap (cl_X12 g a_T u_T v_T ++ X) H locs → lv_has ls 8 [(0, .ref (a_T 0)), (1, .int w1), (2, .int w2), (3, .int w3), (4, .int w4)] → W p l e (rmH 0) s m (List.toArray [.ref (a_T 0), .int x1, .int x2]) below meth c H locs 0 0 (MQ below (va_Qi (fun r2 (_ : Unit) => r2 = r) (fun _ t => POST g A (cl_X12 g a_T u_T v_T ++ X) t) A) (List.toArray [.ref (a_T 0), .int x1, .int x2]) s 0 0 A) (F0 m 5 ls []) := by
    intro K5 hK5 w1 w2 w3 w4 H locs ls hf hw hl
    unfold f_X12_wordAt_J5 at hf
    refine lv_iload hx hb dX12_wordAt_5 (lv_at hl 4 rfl) ?_
    refine lv_aload_n hx hb dX12_wordAt_7 rfl (lv_at hl 0 rfl) ?_
    refine gf_X12_13 S hE hw 0 rfl rfl dX12_wordAt_8 ?_
    refine tx_alen (v := 105) S hE hw 2 1 rfl rfl rfl dX12_wordAt_11 ?_
    refine lv_icmp_ge (tgt := 126) hx hb dX12_wordAt_12 (by decide) (fun h_1 => ?_) (fun h_1 => ?_)
    · replace hf := tx_pos hf h_1
      refine lv_iconst (v := -1) hx hb dX12_wordAt_126 (by decide) ?_
      obtain e0 := tx_in1 hf
      rw [← e0]
      exact tx_iret S hr hlk hw dX12_wordAt_127
    · replace hf := tx_neg hf h_1
      refine lv_iconst (v := 0) hx hb dX12_wordAt_15 (by decide) ?_
      refine lv_istore (lv' := [(5, .int (0 : Int32)), (0, .ref (a_T 0)), (1, .int w1), (2, .int w2), (3, .int w3), (4, .int w4)]) hx hb dX12_wordAt_16 hl (by decide) rfl (fun ls hl => ?_)
      exact L18 hK5 fu hf hw (lv_sub hl [1, 2, 3, 4, 5, 0] rfl)
  have L5 : ∀ (n : Nat), ∀ {w1 : Int32} {w2 : Int32} {w3 : Int32} {w4 : Int32} {H : Heap} {locs : List Loc} {ls : Array Slot}, f_X12_wordAt_L5 fu u_T v_T n w1 w2 w3 w4 = some r → WD g A s.heap (cl_X12 g a_T u_T v_T ++ X) H locs → lv_has ls 8 [(0, .ref (a_T 0)), (1, .int w1), (2, .int w2), (3, .int w3), (4, .int w4)] → W p l e (rmH 0) s m (List.toArray [.ref (a_T 0), .int x1, .int x2]) below meth c H locs 0 0 (MQ below (va_Qi (fun r2 (_ : Unit) => r2 = r) (fun _ t => POST g A (cl_X12 g a_T u_T v_T ++ X) t) A) (List.toArray [.ref (a_T 0), .int x1, .int x2]) s 0 0 A) (F0 m 5 ls []) := by
    intro  n
    induction n with
    | zero => intro w1 w2 w3 w4 H locs ls hf; exact absurd hf (by intro q; cases q)
    | succ n ih => exact fun hf hw hl => J5 ih hf hw hl
  unfold f_X12_wordAt at hf
  refine lv_iconst (v := 0) hx hb dX12_wordAt_0 (by decide) ?_
  refine lv_istore_n (lv' := [(3, .int (0 : Int32)), (0, .ref (a_T 0)), (1, .int x1), (2, .int x2)]) hx hb dX12_wordAt_1 rfl hl (by decide) rfl (fun ls hl => ?_)
  refine lv_iconst (v := 0) hx hb dX12_wordAt_2 (by decide) ?_
  refine lv_istore (lv' := [(4, .int (0 : Int32)), (3, .int (0 : Int32)), (0, .ref (a_T 0)), (1, .int x1), (2, .int x2)]) hx hb dX12_wordAt_3 hl (by decide) rfl (fun ls hl => ?_)
  exact L5 fu hf hw (lv_sub hl [2, 3, 4, 1, 0] rfl)
def f_X12_isSmall (fu : Nat) (u_T : S32) (v_T : S64) (x1 : Int32) : Option (Int32) := if (u_T 0 6) ≤ x1 then (some (0 : Int32)) else (tx_ck x1 700 <| if (u_T 1 x1.toNatClampNeg) < (97 : Int32) then (some (0 : Int32)) else (tx_ck x1 700 <| if (122 : Int32) < (u_T 1 x1.toNatClampNeg) then (some (0 : Int32)) else (some (1 : Int32))))
set_option maxHeartbeats 4000000 in
set_option maxRecDepth 100000 in
theorem c_X12_isSmall {l : Launch} {g : GG} {A : Nat → Prop} {X : va_W} {fu : Nat} {a_T : Nat → Nat} {u_T : S32} {v_T : S64} {x1 : Int32} {r : Int32} (hf : f_X12_isSmall fu u_T v_T x1 = some r) : MI l yX12_isSmall cX12_isSmall 2 (some .boolean) 0 g A (cl_X12 g a_T u_T v_T ++ X) [.ref (a_T 0), .int x1] r (cl_X12 g a_T u_T v_T ++ X) := by
  refine tx_start (av := [.ref (a_T 0), .int x1]) (by decide) (Nat.le_of_ble_eq_true rfl) ?_
  intro p e s m below meth c ls S hr hlk hE hw hl
  have S : CallFix p m c cX12_isSmall 2 s (List.toArray [.ref (a_T 0), .int x1]) (Cond.code yX12_isSmall cX12_isSmall 2 (some .boolean) :: allW) RX12 := S
  have hx := S.1
  have hb := S.2.1
  have hown := S.2.2.2.1
  have hts : ∀ w ∈ allW, w.before (List.toArray [.ref (a_T 0), .int x1]) s = true := fun w h => S.2.2.2.2 w (List.mem_cons_of_mem _ h)
  have hl : lv_has ls 2 [(0, .ref (a_T 0)), (1, .int x1)] := hl
  unfold f_X12_isSmall at hf
  refine lv_iload_n hx hb dX12_isSmall_0 rfl (lv_at hl 1 rfl) ?_
  refine lv_aload_n hx hb dX12_isSmall_1 rfl (lv_at hl 0 rfl) ?_
  refine gf_X12_157 S hE hw 0 rfl rfl dX12_isSmall_2 ?_
  refine lv_icmp_ge (tgt := 34) hx hb dX12_isSmall_5 (by decide) (fun h_1 => ?_) (fun h_1 => ?_)
  · replace hf := tx_pos hf h_1
    refine lv_iconst (v := 0) hx hb dX12_isSmall_34 (by decide) ?_
    obtain e0 := tx_in1 hf
    rw [← e0]
    exact tx_zret S hr hlk (by decide) hw dX12_isSmall_35
  · replace hf := tx_neg hf h_1
    refine lv_aload_n hx hb dX12_isSmall_8 rfl (lv_at hl 0 rfl) ?_
    refine gf_X12_7 S hE hw 0 rfl rfl dX12_isSmall_9 ?_
    refine lv_iload_n hx hb dX12_isSmall_12 rfl (lv_at hl 1 rfl) ?_
    obtain ⟨h_2, hf⟩ := tx_ck_e hf
    refine tx_iald S hE hw 1 rfl h_2 dX12_isSmall_13 ?_
    refine lv_bipush (v := 97) hx hb dX12_isSmall_14 (by decide) ?_
    refine lv_icmp_lt (tgt := 34) hx hb dX12_isSmall_16 (by decide) (fun h_3 => ?_) (fun h_3 => ?_)
    · replace hf := tx_pos hf h_3
      refine lv_iconst (v := 0) hx hb dX12_isSmall_34 (by decide) ?_
      obtain e0 := tx_in1 hf
      rw [← e0]
      exact tx_zret S hr hlk (by decide) hw dX12_isSmall_35
    · replace hf := tx_neg hf h_3
      refine lv_aload_n hx hb dX12_isSmall_19 rfl (lv_at hl 0 rfl) ?_
      refine gf_X12_7 S hE hw 0 rfl rfl dX12_isSmall_20 ?_
      refine lv_iload_n hx hb dX12_isSmall_23 rfl (lv_at hl 1 rfl) ?_
      obtain ⟨h_4, hf⟩ := tx_ck_e hf
      refine tx_iald S hE hw 1 rfl h_4 dX12_isSmall_24 ?_
      refine lv_bipush (v := 122) hx hb dX12_isSmall_25 (by decide) ?_
      refine lv_icmp_gt (tgt := 34) hx hb dX12_isSmall_27 (by decide) (fun h_5 => ?_) (fun h_5 => ?_)
      · replace hf := tx_pos hf h_5
        refine lv_iconst (v := 0) hx hb dX12_isSmall_34 (by decide) ?_
        obtain e0 := tx_in1 hf
        rw [← e0]
        exact tx_zret S hr hlk (by decide) hw dX12_isSmall_35
      · replace hf := tx_neg hf h_5
        refine lv_iconst (v := 1) hx hb dX12_isSmall_30 (by decide) ?_
        refine lv_goto (tgt := 35) hx hb dX12_isSmall_31 (by decide) ?_
        obtain e0 := tx_in1 hf
        rw [← e0]
        exact tx_zret S hr hlk (by decide) hw dX12_isSmall_35
def f_X12_isDigit (fu : Nat) (u_T : S32) (v_T : S64) (x1 : Int32) : Option (Int32) := if (u_T 0 6) ≤ x1 then (some (0 : Int32)) else (tx_ck x1 700 <| if (u_T 1 x1.toNatClampNeg) < (48 : Int32) then (some (0 : Int32)) else (tx_ck x1 700 <| if (57 : Int32) < (u_T 1 x1.toNatClampNeg) then (some (0 : Int32)) else (some (1 : Int32))))
set_option maxHeartbeats 4000000 in
set_option maxRecDepth 100000 in
theorem c_X12_isDigit {l : Launch} {g : GG} {A : Nat → Prop} {X : va_W} {fu : Nat} {a_T : Nat → Nat} {u_T : S32} {v_T : S64} {x1 : Int32} {r : Int32} (hf : f_X12_isDigit fu u_T v_T x1 = some r) : MI l yX12_isDigit cX12_isDigit 2 (some .boolean) 0 g A (cl_X12 g a_T u_T v_T ++ X) [.ref (a_T 0), .int x1] r (cl_X12 g a_T u_T v_T ++ X) := by
  refine tx_start (av := [.ref (a_T 0), .int x1]) (by decide) (Nat.le_of_ble_eq_true rfl) ?_
  intro p e s m below meth c ls S hr hlk hE hw hl
  have S : CallFix p m c cX12_isDigit 2 s (List.toArray [.ref (a_T 0), .int x1]) (Cond.code yX12_isDigit cX12_isDigit 2 (some .boolean) :: allW) RX12 := S
  have hx := S.1
  have hb := S.2.1
  have hown := S.2.2.2.1
  have hts : ∀ w ∈ allW, w.before (List.toArray [.ref (a_T 0), .int x1]) s = true := fun w h => S.2.2.2.2 w (List.mem_cons_of_mem _ h)
  have hl : lv_has ls 2 [(0, .ref (a_T 0)), (1, .int x1)] := hl
  unfold f_X12_isDigit at hf
  refine lv_iload_n hx hb dX12_isDigit_0 rfl (lv_at hl 1 rfl) ?_
  refine lv_aload_n hx hb dX12_isDigit_1 rfl (lv_at hl 0 rfl) ?_
  refine gf_X12_157 S hE hw 0 rfl rfl dX12_isDigit_2 ?_
  refine lv_icmp_ge (tgt := 34) hx hb dX12_isDigit_5 (by decide) (fun h_1 => ?_) (fun h_1 => ?_)
  · replace hf := tx_pos hf h_1
    refine lv_iconst (v := 0) hx hb dX12_isDigit_34 (by decide) ?_
    obtain e0 := tx_in1 hf
    rw [← e0]
    exact tx_zret S hr hlk (by decide) hw dX12_isDigit_35
  · replace hf := tx_neg hf h_1
    refine lv_aload_n hx hb dX12_isDigit_8 rfl (lv_at hl 0 rfl) ?_
    refine gf_X12_7 S hE hw 0 rfl rfl dX12_isDigit_9 ?_
    refine lv_iload_n hx hb dX12_isDigit_12 rfl (lv_at hl 1 rfl) ?_
    obtain ⟨h_2, hf⟩ := tx_ck_e hf
    refine tx_iald S hE hw 1 rfl h_2 dX12_isDigit_13 ?_
    refine lv_bipush (v := 48) hx hb dX12_isDigit_14 (by decide) ?_
    refine lv_icmp_lt (tgt := 34) hx hb dX12_isDigit_16 (by decide) (fun h_3 => ?_) (fun h_3 => ?_)
    · replace hf := tx_pos hf h_3
      refine lv_iconst (v := 0) hx hb dX12_isDigit_34 (by decide) ?_
      obtain e0 := tx_in1 hf
      rw [← e0]
      exact tx_zret S hr hlk (by decide) hw dX12_isDigit_35
    · replace hf := tx_neg hf h_3
      refine lv_aload_n hx hb dX12_isDigit_19 rfl (lv_at hl 0 rfl) ?_
      refine gf_X12_7 S hE hw 0 rfl rfl dX12_isDigit_20 ?_
      refine lv_iload_n hx hb dX12_isDigit_23 rfl (lv_at hl 1 rfl) ?_
      obtain ⟨h_4, hf⟩ := tx_ck_e hf
      refine tx_iald S hE hw 1 rfl h_4 dX12_isDigit_24 ?_
      refine lv_bipush (v := 57) hx hb dX12_isDigit_25 (by decide) ?_
      refine lv_icmp_gt (tgt := 34) hx hb dX12_isDigit_27 (by decide) (fun h_5 => ?_) (fun h_5 => ?_)
      · replace hf := tx_pos hf h_5
        refine lv_iconst (v := 0) hx hb dX12_isDigit_34 (by decide) ?_
        obtain e0 := tx_in1 hf
        rw [← e0]
        exact tx_zret S hr hlk (by decide) hw dX12_isDigit_35
      · replace hf := tx_neg hf h_5
        refine lv_iconst (v := 1) hx hb dX12_isDigit_30 (by decide) ?_
        refine lv_goto (tgt := 35) hx hb dX12_isDigit_31 (by decide) ?_
        obtain e0 := tx_in1 hf
        rw [← e0]
        exact tx_zret S hr hlk (by decide) hw dX12_isDigit_35
def f_X12_signToken_J192 (fu : Nat) (v_T : S64) (u_T : S32) (t1 : Int32) : Option (S32) := tx_let (up2 u_T 0 9 t1) fun (u_T_32 : S32) => some u_T_32
def f_X12_signToken_J135 (fu : Nat) (v_T : S64) (u_T : S32) (w2 : Int32) (w3 : Int32) : Option (S32) := tx_let (up2 u_T 0 8 (5 : Int32)) fun (u_T_26 : S32) => if (u_T_26 0 9) = (61 : Int32) then (f_X12_signToken_J192 fu v_T u_T_26 (2 : Int32)) else (if (u_T_26 0 9) = (60 : Int32) then (if w2 = (0 : Int32) then (if w3 = (0 : Int32) then (f_X12_signToken_J192 fu v_T u_T_26 (0 : Int32)) else (f_X12_signToken_J192 fu v_T u_T_26 (3 : Int32))) else (f_X12_signToken_J192 fu v_T u_T_26 (1 : Int32))) else (if w2 = (0 : Int32) then (f_X12_signToken_J192 fu v_T u_T_26 (5 : Int32)) else (f_X12_signToken_J192 fu v_T u_T_26 (4 : Int32))))
def f_X12_signToken_J125 (fu : Nat) (v_T : S64) (u_T : S32) (w2 : Int32) (w3 : Int32) : Option (S32) := tx_let (up2 u_T 0 7 ((u_T 0 7) + (1 : Int32))) fun (u_T_25 : S32) => f_X12_signToken_J135 fu v_T u_T_25 w2 w3
def f_X12_signToken_J116 (fu : Nat) (v_T : S64) (u_T : S32) (w2 : Int32) (t0 : Int32) : Option (S32) := if w2 = (0 : Int32) then (if t0 = (0 : Int32) then (f_X12_signToken_J135 fu v_T u_T w2 t0) else (f_X12_signToken_J125 fu v_T u_T w2 t0)) else (f_X12_signToken_J125 fu v_T u_T w2 t0)
def f_X12_signToken_J115 (fu : Nat) (v_T : S64) (u_T : S32) (w2 : Int32) : Option (S32) := f_X12_signToken_J116 fu v_T u_T w2 (0 : Int32)
def f_X12_signToken_J95 (fu : Nat) (v_T : S64) (u_T : S32) (w1 : Int32) (t0 : Int32) : Option (S32) := if (u_T 0 9) = (60 : Int32) then (if w1 = (62 : Int32) then (f_X12_signToken_J116 fu v_T u_T t0 (1 : Int32)) else (f_X12_signToken_J115 fu v_T u_T t0)) else (f_X12_signToken_J115 fu v_T u_T t0)
def f_X12_signToken_J94 (fu : Nat) (v_T : S64) (u_T : S32) (w1 : Int32) : Option (S32) := f_X12_signToken_J95 fu v_T u_T w1 (0 : Int32)
def f_X12_signToken_J74 (fu : Nat) (v_T : S64) (u_T : S32) (t0 : Int32) : Option (S32) := if (u_T 0 9) = (61 : Int32) then (f_X12_signToken_J94 fu v_T u_T t0) else (if t0 = (61 : Int32) then (f_X12_signToken_J95 fu v_T u_T t0 (1 : Int32)) else (f_X12_signToken_J94 fu v_T u_T t0))
def f_X12_signToken_J50 (fu : Nat) (v_T : S64) (u_T : S32) : Option (S32) := if (u_T 0 6) ≤ (u_T 0 7) then (f_X12_signToken_J74 fu v_T u_T (0 : Int32)) else (tx_ck (u_T 0 7) 700 <| f_X12_signToken_J74 fu v_T u_T (u_T 1 (u_T 0 7).toNatClampNeg))
def f_X12_signToken_J287 (fu : Nat) (v_T : S64) (u_T : S32) (t1 : Int32) : Option (S32) := tx_let (up2 u_T 0 8 t1) fun (u_T_16 : S32) => some u_T_16
def f_X12_signToken_J275 (fu : Nat) (v_T : S64) (u_T : S32) (t0 : Int32) : Option (S32) := if t0 = (0 : Int32) then (f_X12_signToken_J287 fu v_T u_T (6 : Int32)) else (f_X12_signToken_J287 fu v_T u_T (4 : Int32))
def f_X12_signToken_J270 (fu : Nat) (v_T : S64) (u_T : S32) : Option (S32) := f_X12_signToken_J275 fu v_T u_T (1 : Int32)
def f_X12_signToken (fu : Nat) (v_T : S64) (u_T : S32) : Option (S32) := tx_ck (u_T 0 7) 700 <| tx_let (up2 u_T 0 9 (u_T 1 (u_T 0 7).toNatClampNeg)) fun (u_T_2 : S32) => tx_let (up2 u_T_2 0 7 ((u_T_2 0 7) + (1 : Int32))) fun (u_T_3 : S32) => if (u_T_3 0 9) = (60 : Int32) then (f_X12_signToken_J50 fu v_T u_T_3) else (if (u_T_3 0 9) = (62 : Int32) then (f_X12_signToken_J50 fu v_T u_T_3) else (if (u_T_3 0 9) = (61 : Int32) then (f_X12_signToken_J50 fu v_T u_T_3) else (if (u_T_3 0 9) = (59 : Int32) then (f_X12_signToken_J270 fu v_T u_T_3) else (if (u_T_3 0 9) = (40 : Int32) then (f_X12_signToken_J270 fu v_T u_T_3) else (if (u_T_3 0 9) = (41 : Int32) then (f_X12_signToken_J270 fu v_T u_T_3) else (if (u_T_3 0 9) = (43 : Int32) then (f_X12_signToken_J270 fu v_T u_T_3) else (if (u_T_3 0 9) = (45 : Int32) then (f_X12_signToken_J270 fu v_T u_T_3) else (if (u_T_3 0 9) = (42 : Int32) then (f_X12_signToken_J270 fu v_T u_T_3) else (if (u_T_3 0 9) = (47 : Int32) then (f_X12_signToken_J270 fu v_T u_T_3) else (if (u_T_3 0 9) = (37 : Int32) then (f_X12_signToken_J270 fu v_T u_T_3) else (f_X12_signToken_J275 fu v_T u_T_3 (0 : Int32))))))))))))
set_option maxHeartbeats 4000000 in
set_option maxRecDepth 100000 in
theorem c_X12_signToken {l : Launch} {g : GG} {A : Nat → Prop} {X : va_W} {fu : Nat} {a_T : Nat → Nat} {u_T : S32} {v_T : S64} {zu_T : S32} (hf : f_X12_signToken fu v_T u_T = some zu_T) : MV l yX12_signToken cX12_signToken 4 none 0 g A (cl_X12 g a_T u_T v_T ++ X) [.ref (a_T 0)] (cl_X12 g a_T zu_T v_T ++ X) := by
  refine tx_start (av := [.ref (a_T 0)]) (by decide) (Nat.le_of_ble_eq_true rfl) ?_
  intro p e s m below meth c ls S hr hlk hE hw hl
  have S : CallFix p m c cX12_signToken 4 s (List.toArray [.ref (a_T 0)]) (Cond.code yX12_signToken cX12_signToken 4 none :: allW) RX12 := S
  have hx := S.1
  have hb := S.2.1
  have hown := S.2.2.2.1
  have hts : ∀ w ∈ allW, w.before (List.toArray [.ref (a_T 0)]) s = true := fun w h => S.2.2.2.2 w (List.mem_cons_of_mem _ h)
  have hl : lv_has ls 4 [(0, .ref (a_T 0))] := hl
  have J192 : ∀ {u_T : S32} {t1 : Int32} {H : Heap} {locs : List Loc} {ls : Array Slot}, f_X12_signToken_J192 fu v_T u_T t1 = some zu_T → WD g A s.heap (cl_X12 g a_T u_T v_T ++ X) H locs → lv_has ls 4 [] → W p l e (rmH 0) s m (List.toArray [.ref (a_T 0)]) below meth c H locs 0 0 (MQ below (va_Qv (fun (_ : Unit) => True) (fun _ t => POST g A (cl_X12 g a_T zu_T v_T ++ X) t) A) (List.toArray [.ref (a_T 0)]) s 0 0 A) (F0 m 192 ls [.int t1, .ref (a_T 0)]) := by
    intro u_T t1 H locs ls hf hw hl
    unfold f_X12_signToken_J192 at hf
    obtain ⟨u_T_32, eu_T_32⟩ : ∃ z : S32, z = up2 u_T 0 9 t1 := ⟨_, rfl⟩
    replace hf := tx_let_e hf eu_T_32
    refine pf_X12_174 (ws' := cl_X12 g a_T u_T_32 v_T ++ X) S hE hw rfl rfl 0 rfl (Nat.le_of_ble_eq_true rfl) (by rw [eu_T_32]; rfl) dX12_signToken_192 (fun H locs hw => ?_)
    refine lv_goto (tgt := 290) hx hb dX12_signToken_195 (by decide) ?_
    obtain e0 := tx_in1 hf
    rw [← e0]
    exact tx_vret S hr hlk hw dX12_signToken_290
  have J135 : ∀ {u_T : S32} {w2 : Int32} {w3 : Int32} {H : Heap} {locs : List Loc} {ls : Array Slot}, f_X12_signToken_J135 fu v_T u_T w2 w3 = some zu_T → WD g A s.heap (cl_X12 g a_T u_T v_T ++ X) H locs → lv_has ls 4 [(0, .ref (a_T 0)), (2, .int w2), (3, .int w3)] → W p l e (rmH 0) s m (List.toArray [.ref (a_T 0)]) below meth c H locs 0 0 (MQ below (va_Qv (fun (_ : Unit) => True) (fun _ t => POST g A (cl_X12 g a_T zu_T v_T ++ X) t) A) (List.toArray [.ref (a_T 0)]) s 0 0 A) (F0 m 135 ls []) := by
    intro u_T w2 w3 H locs ls hf hw hl
    unfold f_X12_signToken_J135 at hf
    refine lv_aload_n hx hb dX12_signToken_135 rfl (lv_at hl 0 rfl) ?_
    refine lv_iconst (v := 5) hx hb dX12_signToken_136 (by decide) ?_
    obtain ⟨u_T_26, eu_T_26⟩ : ∃ z : S32, z = up2 u_T 0 8 (5 : Int32) := ⟨_, rfl⟩
    replace hf := tx_let_e hf eu_T_26
    refine pf_X12_163 (ws' := cl_X12 g a_T u_T_26 v_T ++ X) S hE hw rfl rfl 0 rfl (Nat.le_of_ble_eq_true rfl) (by rw [eu_T_26]; rfl) dX12_signToken_137 (fun H locs hw => ?_)
    refine lv_aload_n hx hb dX12_signToken_140 rfl (lv_at hl 0 rfl) ?_
    refine lv_aload_n hx hb dX12_signToken_141 rfl (lv_at hl 0 rfl) ?_
    refine gf_X12_174 S hE hw 0 rfl rfl dX12_signToken_142 ?_
    refine lv_bipush (v := 61) hx hb dX12_signToken_145 (by decide) ?_
    refine lv_icmp_ne (tgt := 154) hx hb dX12_signToken_147 (by decide) (fun h_27 => ?_) (fun h_27 => ?_)
    · replace hf := tx_neg hf h_27
      refine lv_aload_n hx hb dX12_signToken_154 rfl (lv_at hl 0 rfl) ?_
      refine gf_X12_174 S hE hw 0 rfl rfl dX12_signToken_155 ?_
      refine lv_bipush (v := 60) hx hb dX12_signToken_158 (by decide) ?_
      refine lv_icmp_ne (tgt := 183) hx hb dX12_signToken_160 (by decide) (fun h_28 => ?_) (fun h_28 => ?_)
      · replace hf := tx_neg hf h_28
        refine lv_iload_n hx hb dX12_signToken_183 rfl (lv_at hl 1 rfl) ?_
        refine lv_if_eq (tgt := 191) hx hb dX12_signToken_184 (by decide) (fun h_29 => ?_) (fun h_29 => ?_)
        · replace hf := tx_pos hf h_29
          refine lv_iconst (v := 5) hx hb dX12_signToken_191 (by decide) ?_
          exact J192 hf hw (lv_sub hl [] rfl)
        · replace hf := tx_neg hf h_29
          refine lv_iconst (v := 4) hx hb dX12_signToken_187 (by decide) ?_
          refine lv_goto (tgt := 192) hx hb dX12_signToken_188 (by decide) ?_
          exact J192 hf hw (lv_sub hl [] rfl)
      · replace hf := tx_pos hf h_28
        refine lv_iload_n hx hb dX12_signToken_163 rfl (lv_at hl 1 rfl) ?_
        refine lv_if_eq (tgt := 171) hx hb dX12_signToken_164 (by decide) (fun h_30 => ?_) (fun h_30 => ?_)
        · replace hf := tx_pos hf h_30
          refine lv_iload_n hx hb dX12_signToken_171 rfl (lv_at hl 2 rfl) ?_
          refine lv_if_eq (tgt := 179) hx hb dX12_signToken_172 (by decide) (fun h_31 => ?_) (fun h_31 => ?_)
          · replace hf := tx_pos hf h_31
            refine lv_iconst (v := 0) hx hb dX12_signToken_179 (by decide) ?_
            refine lv_goto (tgt := 192) hx hb dX12_signToken_180 (by decide) ?_
            exact J192 hf hw (lv_sub hl [] rfl)
          · replace hf := tx_neg hf h_31
            refine lv_iconst (v := 3) hx hb dX12_signToken_175 (by decide) ?_
            refine lv_goto (tgt := 192) hx hb dX12_signToken_176 (by decide) ?_
            exact J192 hf hw (lv_sub hl [] rfl)
        · replace hf := tx_neg hf h_30
          refine lv_iconst (v := 1) hx hb dX12_signToken_167 (by decide) ?_
          refine lv_goto (tgt := 192) hx hb dX12_signToken_168 (by decide) ?_
          exact J192 hf hw (lv_sub hl [] rfl)
    · replace hf := tx_pos hf h_27
      refine lv_iconst (v := 2) hx hb dX12_signToken_150 (by decide) ?_
      refine lv_goto (tgt := 192) hx hb dX12_signToken_151 (by decide) ?_
      exact J192 hf hw (lv_sub hl [] rfl)
  have J125 : ∀ {u_T : S32} {w2 : Int32} {w3 : Int32} {H : Heap} {locs : List Loc} {ls : Array Slot}, f_X12_signToken_J125 fu v_T u_T w2 w3 = some zu_T → WD g A s.heap (cl_X12 g a_T u_T v_T ++ X) H locs → lv_has ls 4 [(0, .ref (a_T 0)), (2, .int w2), (3, .int w3)] → W p l e (rmH 0) s m (List.toArray [.ref (a_T 0)]) below meth c H locs 0 0 (MQ below (va_Qv (fun (_ : Unit) => True) (fun _ t => POST g A (cl_X12 g a_T zu_T v_T ++ X) t) A) (List.toArray [.ref (a_T 0)]) s 0 0 A) (F0 m 125 ls []) := by
    intro u_T w2 w3 H locs ls hf hw hl
    unfold f_X12_signToken_J125 at hf
    refine lv_aload_n hx hb dX12_signToken_125 rfl (lv_at hl 0 rfl) ?_
    refine lv_dup hx hb dX12_signToken_126 rfl ?_
    refine gf_X12_160 S hE hw 0 rfl rfl dX12_signToken_127 ?_
    refine lv_iconst (v := 1) hx hb dX12_signToken_130 (by decide) ?_
    refine lv_iadd hx hb dX12_signToken_131 ?_
    obtain ⟨u_T_25, eu_T_25⟩ : ∃ z : S32, z = up2 u_T 0 7 ((u_T 0 7) + (1 : Int32)) := ⟨_, rfl⟩
    replace hf := tx_let_e hf eu_T_25
    refine pf_X12_160 (ws' := cl_X12 g a_T u_T_25 v_T ++ X) S hE hw rfl rfl 0 rfl (Nat.le_of_ble_eq_true rfl) (by rw [eu_T_25]; rfl) dX12_signToken_132 (fun H locs hw => ?_)
    exact J135 hf hw (lv_sub hl [0, 1, 2] rfl)
  have J116 : ∀ {u_T : S32} {w2 : Int32} {t0 : Int32} {H : Heap} {locs : List Loc} {ls : Array Slot}, f_X12_signToken_J116 fu v_T u_T w2 t0 = some zu_T → WD g A s.heap (cl_X12 g a_T u_T v_T ++ X) H locs → lv_has ls 4 [(0, .ref (a_T 0)), (2, .int w2)] → W p l e (rmH 0) s m (List.toArray [.ref (a_T 0)]) below meth c H locs 0 0 (MQ below (va_Qv (fun (_ : Unit) => True) (fun _ t => POST g A (cl_X12 g a_T zu_T v_T ++ X) t) A) (List.toArray [.ref (a_T 0)]) s 0 0 A) (F0 m 116 ls [.int t0]) := by
    intro u_T w2 t0 H locs ls hf hw hl
    unfold f_X12_signToken_J116 at hf
    refine lv_istore_n (lv' := [(3, .int t0), (0, .ref (a_T 0)), (2, .int w2)]) hx hb dX12_signToken_116 rfl hl (by decide) rfl (fun ls hl => ?_)
    refine lv_iload_n hx hb dX12_signToken_117 rfl (lv_at hl 2 rfl) ?_
    refine lv_if_ne (tgt := 125) hx hb dX12_signToken_118 (by decide) (fun h_23 => ?_) (fun h_23 => ?_)
    · replace hf := tx_neg hf h_23
      exact J125 hf hw (lv_sub hl [1, 2, 0] rfl)
    · replace hf := tx_pos hf h_23
      refine lv_iload_n hx hb dX12_signToken_121 rfl (lv_at hl 0 rfl) ?_
      refine lv_if_eq (tgt := 135) hx hb dX12_signToken_122 (by decide) (fun h_24 => ?_) (fun h_24 => ?_)
      · replace hf := tx_pos hf h_24
        exact J135 hf hw (lv_sub hl [1, 2, 0] rfl)
      · replace hf := tx_neg hf h_24
        exact J125 hf hw (lv_sub hl [1, 2, 0] rfl)
  have J115 : ∀ {u_T : S32} {w2 : Int32} {H : Heap} {locs : List Loc} {ls : Array Slot}, f_X12_signToken_J115 fu v_T u_T w2 = some zu_T → WD g A s.heap (cl_X12 g a_T u_T v_T ++ X) H locs → lv_has ls 4 [(0, .ref (a_T 0)), (2, .int w2)] → W p l e (rmH 0) s m (List.toArray [.ref (a_T 0)]) below meth c H locs 0 0 (MQ below (va_Qv (fun (_ : Unit) => True) (fun _ t => POST g A (cl_X12 g a_T zu_T v_T ++ X) t) A) (List.toArray [.ref (a_T 0)]) s 0 0 A) (F0 m 115 ls []) := by
    intro u_T w2 H locs ls hf hw hl
    unfold f_X12_signToken_J115 at hf
    refine lv_iconst (v := 0) hx hb dX12_signToken_115 (by decide) ?_
    exact J116 hf hw (lv_sub hl [0, 1] rfl)
  have J95 : ∀ {u_T : S32} {w1 : Int32} {t0 : Int32} {H : Heap} {locs : List Loc} {ls : Array Slot}, f_X12_signToken_J95 fu v_T u_T w1 t0 = some zu_T → WD g A s.heap (cl_X12 g a_T u_T v_T ++ X) H locs → lv_has ls 4 [(0, .ref (a_T 0)), (1, .int w1)] → W p l e (rmH 0) s m (List.toArray [.ref (a_T 0)]) below meth c H locs 0 0 (MQ below (va_Qv (fun (_ : Unit) => True) (fun _ t => POST g A (cl_X12 g a_T zu_T v_T ++ X) t) A) (List.toArray [.ref (a_T 0)]) s 0 0 A) (F0 m 95 ls [.int t0]) := by
    intro u_T w1 t0 H locs ls hf hw hl
    unfold f_X12_signToken_J95 at hf
    refine lv_istore_n (lv' := [(2, .int t0), (0, .ref (a_T 0)), (1, .int w1)]) hx hb dX12_signToken_95 rfl hl (by decide) rfl (fun ls hl => ?_)
    refine lv_aload_n hx hb dX12_signToken_96 rfl (lv_at hl 1 rfl) ?_
    refine gf_X12_174 S hE hw 0 rfl rfl dX12_signToken_97 ?_
    refine lv_bipush (v := 60) hx hb dX12_signToken_100 (by decide) ?_
    refine lv_icmp_ne (tgt := 115) hx hb dX12_signToken_102 (by decide) (fun h_21 => ?_) (fun h_21 => ?_)
    · replace hf := tx_neg hf h_21
      exact J115 hf hw (lv_sub hl [1, 0] rfl)
    · replace hf := tx_pos hf h_21
      refine lv_iload_n hx hb dX12_signToken_105 rfl (lv_at hl 2 rfl) ?_
      refine lv_bipush (v := 62) hx hb dX12_signToken_106 (by decide) ?_
      refine lv_icmp_ne (tgt := 115) hx hb dX12_signToken_108 (by decide) (fun h_22 => ?_) (fun h_22 => ?_)
      · replace hf := tx_neg hf h_22
        exact J115 hf hw (lv_sub hl [1, 0] rfl)
      · replace hf := tx_pos hf h_22
        refine lv_iconst (v := 1) hx hb dX12_signToken_111 (by decide) ?_
        refine lv_goto (tgt := 116) hx hb dX12_signToken_112 (by decide) ?_
        exact J116 hf hw (lv_sub hl [1, 0] rfl)
  have J94 : ∀ {u_T : S32} {w1 : Int32} {H : Heap} {locs : List Loc} {ls : Array Slot}, f_X12_signToken_J94 fu v_T u_T w1 = some zu_T → WD g A s.heap (cl_X12 g a_T u_T v_T ++ X) H locs → lv_has ls 4 [(0, .ref (a_T 0)), (1, .int w1)] → W p l e (rmH 0) s m (List.toArray [.ref (a_T 0)]) below meth c H locs 0 0 (MQ below (va_Qv (fun (_ : Unit) => True) (fun _ t => POST g A (cl_X12 g a_T zu_T v_T ++ X) t) A) (List.toArray [.ref (a_T 0)]) s 0 0 A) (F0 m 94 ls []) := by
    intro u_T w1 H locs ls hf hw hl
    unfold f_X12_signToken_J94 at hf
    refine lv_iconst (v := 0) hx hb dX12_signToken_94 (by decide) ?_
    exact J95 hf hw (lv_sub hl [0, 1] rfl)
  have J74 : ∀ {u_T : S32} {t0 : Int32} {H : Heap} {locs : List Loc} {ls : Array Slot}, f_X12_signToken_J74 fu v_T u_T t0 = some zu_T → WD g A s.heap (cl_X12 g a_T u_T v_T ++ X) H locs → lv_has ls 4 [(0, .ref (a_T 0))] → W p l e (rmH 0) s m (List.toArray [.ref (a_T 0)]) below meth c H locs 0 0 (MQ below (va_Qv (fun (_ : Unit) => True) (fun _ t => POST g A (cl_X12 g a_T zu_T v_T ++ X) t) A) (List.toArray [.ref (a_T 0)]) s 0 0 A) (F0 m 74 ls [.int t0]) := by
    intro u_T t0 H locs ls hf hw hl
    unfold f_X12_signToken_J74 at hf
    refine lv_istore_n (lv' := [(1, .int t0), (0, .ref (a_T 0))]) hx hb dX12_signToken_74 rfl hl (by decide) rfl (fun ls hl => ?_)
    refine lv_aload_n hx hb dX12_signToken_75 rfl (lv_at hl 1 rfl) ?_
    refine gf_X12_174 S hE hw 0 rfl rfl dX12_signToken_76 ?_
    refine lv_bipush (v := 61) hx hb dX12_signToken_79 (by decide) ?_
    refine lv_icmp_eq (tgt := 94) hx hb dX12_signToken_81 (by decide) (fun h_19 => ?_) (fun h_19 => ?_)
    · replace hf := tx_pos hf h_19
      exact J94 hf hw (lv_sub hl [1, 0] rfl)
    · replace hf := tx_neg hf h_19
      refine lv_iload_n hx hb dX12_signToken_84 rfl (lv_at hl 0 rfl) ?_
      refine lv_bipush (v := 61) hx hb dX12_signToken_85 (by decide) ?_
      refine lv_icmp_ne (tgt := 94) hx hb dX12_signToken_87 (by decide) (fun h_20 => ?_) (fun h_20 => ?_)
      · replace hf := tx_neg hf h_20
        exact J94 hf hw (lv_sub hl [1, 0] rfl)
      · replace hf := tx_pos hf h_20
        refine lv_iconst (v := 1) hx hb dX12_signToken_90 (by decide) ?_
        refine lv_goto (tgt := 95) hx hb dX12_signToken_91 (by decide) ?_
        exact J95 hf hw (lv_sub hl [1, 0] rfl)
  have J50 : ∀ {u_T : S32} {H : Heap} {locs : List Loc} {ls : Array Slot}, f_X12_signToken_J50 fu v_T u_T = some zu_T → WD g A s.heap (cl_X12 g a_T u_T v_T ++ X) H locs → lv_has ls 4 [(0, .ref (a_T 0))] → W p l e (rmH 0) s m (List.toArray [.ref (a_T 0)]) below meth c H locs 0 0 (MQ below (va_Qv (fun (_ : Unit) => True) (fun _ t => POST g A (cl_X12 g a_T zu_T v_T ++ X) t) A) (List.toArray [.ref (a_T 0)]) s 0 0 A) (F0 m 50 ls []) := by
    intro u_T H locs ls hf hw hl
    unfold f_X12_signToken_J50 at hf
    refine lv_aload_n hx hb dX12_signToken_50 rfl (lv_at hl 0 rfl) ?_
    refine gf_X12_160 S hE hw 0 rfl rfl dX12_signToken_51 ?_
    refine lv_aload_n hx hb dX12_signToken_54 rfl (lv_at hl 0 rfl) ?_
    refine gf_X12_157 S hE hw 0 rfl rfl dX12_signToken_55 ?_
    refine lv_icmp_ge (tgt := 73) hx hb dX12_signToken_58 (by decide) (fun h_17 => ?_) (fun h_17 => ?_)
    · replace hf := tx_pos hf h_17
      refine lv_iconst (v := 0) hx hb dX12_signToken_73 (by decide) ?_
      exact J74 hf hw (lv_sub hl [0] rfl)
    · replace hf := tx_neg hf h_17
      refine lv_aload_n hx hb dX12_signToken_61 rfl (lv_at hl 0 rfl) ?_
      refine gf_X12_7 S hE hw 0 rfl rfl dX12_signToken_62 ?_
      refine lv_aload_n hx hb dX12_signToken_65 rfl (lv_at hl 0 rfl) ?_
      refine gf_X12_160 S hE hw 0 rfl rfl dX12_signToken_66 ?_
      obtain ⟨h_18, hf⟩ := tx_ck_e hf
      refine tx_iald S hE hw 1 rfl h_18 dX12_signToken_69 ?_
      refine lv_goto (tgt := 74) hx hb dX12_signToken_70 (by decide) ?_
      exact J74 hf hw (lv_sub hl [0] rfl)
  have J287 : ∀ {u_T : S32} {t1 : Int32} {H : Heap} {locs : List Loc} {ls : Array Slot}, f_X12_signToken_J287 fu v_T u_T t1 = some zu_T → WD g A s.heap (cl_X12 g a_T u_T v_T ++ X) H locs → lv_has ls 4 [] → W p l e (rmH 0) s m (List.toArray [.ref (a_T 0)]) below meth c H locs 0 0 (MQ below (va_Qv (fun (_ : Unit) => True) (fun _ t => POST g A (cl_X12 g a_T zu_T v_T ++ X) t) A) (List.toArray [.ref (a_T 0)]) s 0 0 A) (F0 m 287 ls [.int t1, .ref (a_T 0)]) := by
    intro u_T t1 H locs ls hf hw hl
    unfold f_X12_signToken_J287 at hf
    obtain ⟨u_T_16, eu_T_16⟩ : ∃ z : S32, z = up2 u_T 0 8 t1 := ⟨_, rfl⟩
    replace hf := tx_let_e hf eu_T_16
    refine pf_X12_163 (ws' := cl_X12 g a_T u_T_16 v_T ++ X) S hE hw rfl rfl 0 rfl (Nat.le_of_ble_eq_true rfl) (by rw [eu_T_16]; rfl) dX12_signToken_287 (fun H locs hw => ?_)
    obtain e0 := tx_in1 hf
    rw [← e0]
    exact tx_vret S hr hlk hw dX12_signToken_290
  have J275 : ∀ {u_T : S32} {t0 : Int32} {H : Heap} {locs : List Loc} {ls : Array Slot}, f_X12_signToken_J275 fu v_T u_T t0 = some zu_T → WD g A s.heap (cl_X12 g a_T u_T v_T ++ X) H locs → lv_has ls 4 [(0, .ref (a_T 0))] → W p l e (rmH 0) s m (List.toArray [.ref (a_T 0)]) below meth c H locs 0 0 (MQ below (va_Qv (fun (_ : Unit) => True) (fun _ t => POST g A (cl_X12 g a_T zu_T v_T ++ X) t) A) (List.toArray [.ref (a_T 0)]) s 0 0 A) (F0 m 275 ls [.int t0]) := by
    intro u_T t0 H locs ls hf hw hl
    unfold f_X12_signToken_J275 at hf
    refine lv_istore_n (lv' := [(1, .int t0), (0, .ref (a_T 0))]) hx hb dX12_signToken_275 rfl hl (by decide) rfl (fun ls hl => ?_)
    refine lv_aload_n hx hb dX12_signToken_276 rfl (lv_at hl 1 rfl) ?_
    refine lv_iload_n hx hb dX12_signToken_277 rfl (lv_at hl 0 rfl) ?_
    refine lv_if_eq (tgt := 285) hx hb dX12_signToken_278 (by decide) (fun h_15 => ?_) (fun h_15 => ?_)
    · replace hf := tx_pos hf h_15
      refine lv_bipush (v := 6) hx hb dX12_signToken_285 (by decide) ?_
      exact J287 hf hw (lv_sub hl [] rfl)
    · replace hf := tx_neg hf h_15
      refine lv_iconst (v := 4) hx hb dX12_signToken_281 (by decide) ?_
      refine lv_goto (tgt := 287) hx hb dX12_signToken_282 (by decide) ?_
      exact J287 hf hw (lv_sub hl [] rfl)
  have J270 : ∀ {u_T : S32} {H : Heap} {locs : List Loc} {ls : Array Slot}, f_X12_signToken_J270 fu v_T u_T = some zu_T → WD g A s.heap (cl_X12 g a_T u_T v_T ++ X) H locs → lv_has ls 4 [(0, .ref (a_T 0))] → W p l e (rmH 0) s m (List.toArray [.ref (a_T 0)]) below meth c H locs 0 0 (MQ below (va_Qv (fun (_ : Unit) => True) (fun _ t => POST g A (cl_X12 g a_T zu_T v_T ++ X) t) A) (List.toArray [.ref (a_T 0)]) s 0 0 A) (F0 m 270 ls []) := by
    intro u_T H locs ls hf hw hl
    unfold f_X12_signToken_J270 at hf
    refine lv_iconst (v := 1) hx hb dX12_signToken_270 (by decide) ?_
    refine lv_goto (tgt := 275) hx hb dX12_signToken_271 (by decide) ?_
    exact J275 hf hw (lv_sub hl [0] rfl)
  unfold f_X12_signToken at hf
  refine lv_aload_n hx hb dX12_signToken_0 rfl (lv_at hl 0 rfl) ?_
  refine lv_aload_n hx hb dX12_signToken_1 rfl (lv_at hl 0 rfl) ?_
  refine gf_X12_7 S hE hw 0 rfl rfl dX12_signToken_2 ?_
  refine lv_aload_n hx hb dX12_signToken_5 rfl (lv_at hl 0 rfl) ?_
  refine gf_X12_160 S hE hw 0 rfl rfl dX12_signToken_6 ?_
  obtain ⟨h_1, hf⟩ := tx_ck_e hf
  refine tx_iald S hE hw 1 rfl h_1 dX12_signToken_9 ?_
  obtain ⟨u_T_2, eu_T_2⟩ : ∃ z : S32, z = up2 u_T 0 9 (u_T 1 (u_T 0 7).toNatClampNeg) := ⟨_, rfl⟩
  replace hf := tx_let_e hf eu_T_2
  refine pf_X12_174 (ws' := cl_X12 g a_T u_T_2 v_T ++ X) S hE hw rfl rfl 0 rfl (Nat.le_of_ble_eq_true rfl) (by rw [eu_T_2]; rfl) dX12_signToken_10 (fun H locs hw => ?_)
  refine lv_aload_n hx hb dX12_signToken_13 rfl (lv_at hl 0 rfl) ?_
  refine lv_dup hx hb dX12_signToken_14 rfl ?_
  refine gf_X12_160 S hE hw 0 rfl rfl dX12_signToken_15 ?_
  refine lv_iconst (v := 1) hx hb dX12_signToken_18 (by decide) ?_
  refine lv_iadd hx hb dX12_signToken_19 ?_
  obtain ⟨u_T_3, eu_T_3⟩ : ∃ z : S32, z = up2 u_T_2 0 7 ((u_T_2 0 7) + (1 : Int32)) := ⟨_, rfl⟩
  replace hf := tx_let_e hf eu_T_3
  refine pf_X12_160 (ws' := cl_X12 g a_T u_T_3 v_T ++ X) S hE hw rfl rfl 0 rfl (Nat.le_of_ble_eq_true rfl) (by rw [eu_T_3]; rfl) dX12_signToken_20 (fun H locs hw => ?_)
  refine lv_aload_n hx hb dX12_signToken_23 rfl (lv_at hl 0 rfl) ?_
  refine gf_X12_174 S hE hw 0 rfl rfl dX12_signToken_24 ?_
  refine lv_bipush (v := 60) hx hb dX12_signToken_27 (by decide) ?_
  refine lv_icmp_eq (tgt := 50) hx hb dX12_signToken_29 (by decide) (fun h_4 => ?_) (fun h_4 => ?_)
  · replace hf := tx_pos hf h_4
    exact J50 hf hw (lv_sub hl [0] rfl)
  · replace hf := tx_neg hf h_4
    refine lv_aload_n hx hb dX12_signToken_32 rfl (lv_at hl 0 rfl) ?_
    refine gf_X12_174 S hE hw 0 rfl rfl dX12_signToken_33 ?_
    refine lv_bipush (v := 62) hx hb dX12_signToken_36 (by decide) ?_
    refine lv_icmp_eq (tgt := 50) hx hb dX12_signToken_38 (by decide) (fun h_5 => ?_) (fun h_5 => ?_)
    · replace hf := tx_pos hf h_5
      exact J50 hf hw (lv_sub hl [0] rfl)
    · replace hf := tx_neg hf h_5
      refine lv_aload_n hx hb dX12_signToken_41 rfl (lv_at hl 0 rfl) ?_
      refine gf_X12_174 S hE hw 0 rfl rfl dX12_signToken_42 ?_
      refine lv_bipush (v := 61) hx hb dX12_signToken_45 (by decide) ?_
      refine lv_icmp_ne (tgt := 198) hx hb dX12_signToken_47 (by decide) (fun h_6 => ?_) (fun h_6 => ?_)
      · replace hf := tx_neg hf h_6
        refine lv_aload_n hx hb dX12_signToken_198 rfl (lv_at hl 0 rfl) ?_
        refine gf_X12_174 S hE hw 0 rfl rfl dX12_signToken_199 ?_
        refine lv_bipush (v := 59) hx hb dX12_signToken_202 (by decide) ?_
        refine lv_icmp_eq (tgt := 270) hx hb dX12_signToken_204 (by decide) (fun h_7 => ?_) (fun h_7 => ?_)
        · replace hf := tx_pos hf h_7
          exact J270 hf hw (lv_sub hl [0] rfl)
        · replace hf := tx_neg hf h_7
          refine lv_aload_n hx hb dX12_signToken_207 rfl (lv_at hl 0 rfl) ?_
          refine gf_X12_174 S hE hw 0 rfl rfl dX12_signToken_208 ?_
          refine lv_bipush (v := 40) hx hb dX12_signToken_211 (by decide) ?_
          refine lv_icmp_eq (tgt := 270) hx hb dX12_signToken_213 (by decide) (fun h_8 => ?_) (fun h_8 => ?_)
          · replace hf := tx_pos hf h_8
            exact J270 hf hw (lv_sub hl [0] rfl)
          · replace hf := tx_neg hf h_8
            refine lv_aload_n hx hb dX12_signToken_216 rfl (lv_at hl 0 rfl) ?_
            refine gf_X12_174 S hE hw 0 rfl rfl dX12_signToken_217 ?_
            refine lv_bipush (v := 41) hx hb dX12_signToken_220 (by decide) ?_
            refine lv_icmp_eq (tgt := 270) hx hb dX12_signToken_222 (by decide) (fun h_9 => ?_) (fun h_9 => ?_)
            · replace hf := tx_pos hf h_9
              exact J270 hf hw (lv_sub hl [0] rfl)
            · replace hf := tx_neg hf h_9
              refine lv_aload_n hx hb dX12_signToken_225 rfl (lv_at hl 0 rfl) ?_
              refine gf_X12_174 S hE hw 0 rfl rfl dX12_signToken_226 ?_
              refine lv_bipush (v := 43) hx hb dX12_signToken_229 (by decide) ?_
              refine lv_icmp_eq (tgt := 270) hx hb dX12_signToken_231 (by decide) (fun h_10 => ?_) (fun h_10 => ?_)
              · replace hf := tx_pos hf h_10
                exact J270 hf hw (lv_sub hl [0] rfl)
              · replace hf := tx_neg hf h_10
                refine lv_aload_n hx hb dX12_signToken_234 rfl (lv_at hl 0 rfl) ?_
                refine gf_X12_174 S hE hw 0 rfl rfl dX12_signToken_235 ?_
                refine lv_bipush (v := 45) hx hb dX12_signToken_238 (by decide) ?_
                refine lv_icmp_eq (tgt := 270) hx hb dX12_signToken_240 (by decide) (fun h_11 => ?_) (fun h_11 => ?_)
                · replace hf := tx_pos hf h_11
                  exact J270 hf hw (lv_sub hl [0] rfl)
                · replace hf := tx_neg hf h_11
                  refine lv_aload_n hx hb dX12_signToken_243 rfl (lv_at hl 0 rfl) ?_
                  refine gf_X12_174 S hE hw 0 rfl rfl dX12_signToken_244 ?_
                  refine lv_bipush (v := 42) hx hb dX12_signToken_247 (by decide) ?_
                  refine lv_icmp_eq (tgt := 270) hx hb dX12_signToken_249 (by decide) (fun h_12 => ?_) (fun h_12 => ?_)
                  · replace hf := tx_pos hf h_12
                    exact J270 hf hw (lv_sub hl [0] rfl)
                  · replace hf := tx_neg hf h_12
                    refine lv_aload_n hx hb dX12_signToken_252 rfl (lv_at hl 0 rfl) ?_
                    refine gf_X12_174 S hE hw 0 rfl rfl dX12_signToken_253 ?_
                    refine lv_bipush (v := 47) hx hb dX12_signToken_256 (by decide) ?_
                    refine lv_icmp_eq (tgt := 270) hx hb dX12_signToken_258 (by decide) (fun h_13 => ?_) (fun h_13 => ?_)
                    · replace hf := tx_pos hf h_13
                      exact J270 hf hw (lv_sub hl [0] rfl)
                    · replace hf := tx_neg hf h_13
                      refine lv_aload_n hx hb dX12_signToken_261 rfl (lv_at hl 0 rfl) ?_
                      refine gf_X12_174 S hE hw 0 rfl rfl dX12_signToken_262 ?_
                      refine lv_bipush (v := 37) hx hb dX12_signToken_265 (by decide) ?_
                      refine lv_icmp_ne (tgt := 274) hx hb dX12_signToken_267 (by decide) (fun h_14 => ?_) (fun h_14 => ?_)
                      · replace hf := tx_neg hf h_14
                        refine lv_iconst (v := 0) hx hb dX12_signToken_274 (by decide) ?_
                        exact J275 hf hw (lv_sub hl [0] rfl)
                      · replace hf := tx_pos hf h_14
                        exact J270 hf hw (lv_sub hl [0] rfl)
      · replace hf := tx_pos hf h_6
        exact J50 hf hw (lv_sub hl [0] rfl)
def f_X12_packed_J37 (fu : Nat) (u_T : S32) (v_T : S64) (K5 : Int32 → Int32 → Int32 → Int32 → Option (Int32)) (w1 : Int32) (w2 : Int32) (w4 : Int32) (t0 : Int32) (t1 : Int32) : Option (Int32) := tx_let (t0 ||| t1) fun (y_4 : Int32) => tx_let (w4 + (1 : Int32)) fun (y_5 : Int32) => K5 w1 w2 y_4 y_5
def f_X12_packed_J5 (fu : Nat) (u_T : S32) (v_T : S64) (K5 : Int32 → Int32 → Int32 → Int32 → Option (Int32)) (w1 : Int32) (w2 : Int32) (w3 : Int32) (w4 : Int32) : Option (Int32) := if (w1 + (6 : Int32)) ≤ w4 then (some w3) else (if w2 ≤ w4 then (f_X12_packed_J37 fu u_T v_T K5 w1 w2 w4 (w3 <<< ((5 : Int32) &&& 31)) (0 : Int32)) else (tx_ck w4 700 <| f_X12_packed_J37 fu u_T v_T K5 w1 w2 w4 (w3 <<< ((5 : Int32) &&& 31)) ((u_T 1 w4.toNatClampNeg) - (96 : Int32))))
def f_X12_packed_L5 (fu : Nat) (u_T : S32) (v_T : S64) : Nat → Int32 → Int32 → Int32 → Int32 → Option (Int32)
  | 0 => fun _ _ _ _ => none
  | n + 1 => f_X12_packed_J5 fu u_T v_T (f_X12_packed_L5 fu u_T v_T n)
def f_X12_packed (fu : Nat) (u_T : S32) (v_T : S64) (x1 : Int32) (x2 : Int32) : Option (Int32) := f_X12_packed_L5 fu u_T v_T fu x1 x2 (0 : Int32) x1
set_option maxHeartbeats 4000000 in
set_option maxRecDepth 100000 in
theorem c_X12_packed {l : Launch} {g : GG} {A : Nat → Prop} {X : va_W} {fu : Nat} {a_T : Nat → Nat} {u_T : S32} {v_T : S64} {x1 : Int32} {x2 : Int32} {r : Int32} (hf : f_X12_packed fu u_T v_T x1 x2 = some r) : MI l yX12_packed cX12_packed 5 (some .int) 0 g A (cl_X12 g a_T u_T v_T ++ X) [.ref (a_T 0), .int x1, .int x2] r (cl_X12 g a_T u_T v_T ++ X) := by
  refine tx_start (av := [.ref (a_T 0), .int x1, .int x2]) (by decide) (Nat.le_of_ble_eq_true rfl) ?_
  intro p e s m below meth c ls S hr hlk hE hw hl
  have S : CallFix p m c cX12_packed 5 s (List.toArray [.ref (a_T 0), .int x1, .int x2]) (Cond.code yX12_packed cX12_packed 5 (some .int) :: allW) RX12 := S
  have hx := S.1
  have hb := S.2.1
  have hown := S.2.2.2.1
  have hts : ∀ w ∈ allW, w.before (List.toArray [.ref (a_T 0), .int x1, .int x2]) s = true := fun w h => S.2.2.2.2 w (List.mem_cons_of_mem _ h)
  have hl : lv_has ls 5 [(0, .ref (a_T 0)), (1, .int x1), (2, .int x2)] := hl
  have J37 : ∀ {K5 : Int32 → Int32 → Int32 → Int32 → Option (Int32)} (hK5 : ∀ {w1 : Int32} {w2 : Int32} {w3 : Int32} {w4 : Int32} {H : Heap} {locs : List Loc} {ls : Array Slot}, K5 w1 w2 w3 w4 = some r → WD g A s.heap (cl_X12 g a_T u_T v_T ++ X) H locs → lv_has ls 5 [(0, .ref (a_T 0)), (1, .int w1), (2, .int w2), (3, .int w3), (4, .int w4)] → W p l e (rmH 0) s m (List.toArray [.ref (a_T 0), .int x1, .int x2]) below meth c H locs 0 0 (MQ below (va_Qi (fun r2 (_ : Unit) => r2 = r) (fun _ t => POST g A (cl_X12 g a_T u_T v_T ++ X) t) A) (List.toArray [.ref (a_T 0), .int x1, .int x2]) s 0 0 A) (F0 m 5 ls [])), ∀ {w1 : Int32} {w2 : Int32} {w4 : Int32} {t0 : Int32} {t1 : Int32} {H : Heap} {locs : List Loc} {ls : Array Slot}, f_X12_packed_J37 fu u_T v_T K5 w1 w2 w4 t0 t1 = some r → WD g A s.heap (cl_X12 g a_T u_T v_T ++ X) H locs → lv_has ls 5 [(0, .ref (a_T 0)), (1, .int w1), (2, .int w2), (4, .int w4)] → W p l e (rmH 0) s m (List.toArray [.ref (a_T 0), .int x1, .int x2]) below meth c H locs 0 0 (MQ below (va_Qi (fun r2 (_ : Unit) => r2 = r) (fun _ t => POST g A (cl_X12 g a_T u_T v_T ++ X) t) A) (List.toArray [.ref (a_T 0), .int x1, .int x2]) s 0 0 A) (F0 m 37 ls [.int t1, .int t0]) := by
    intro K5 hK5 w1 w2 w4 t0 t1 H locs ls hf hw hl
    unfold f_X12_packed_J37 at hf
    refine lv_ior hx hb dX12_packed_37 ?_
    refine lv_topi (fun y_4 ey_4 => ?_)
    replace hf := tx_let_e hf ey_4
    refine lv_istore_n (lv' := [(3, .int y_4), (0, .ref (a_T 0)), (1, .int w1), (2, .int w2), (4, .int w4)]) hx hb dX12_packed_38 rfl hl (by decide) rfl (fun ls hl => ?_)
    obtain ⟨y_5, ey_5⟩ : ∃ y : Int32, y = w4 + (1 : Int32) := ⟨_, rfl⟩
    replace hf := tx_let_e hf ey_5
    refine lv_iinc (v := y_5) (lv' := [(4, .int y_5), (3, .int y_4), (0, .ref (a_T 0)), (1, .int w1), (2, .int w2)]) hx hb dX12_packed_39 hl (k := 4) rfl (by rw [ey_5]; rfl) (by decide) rfl (fun ls hl => ?_)
    refine lv_goto (tgt := 5) hx hb dX12_packed_42 (by decide) ?_
    exact hK5 hf hw (lv_sub hl [2, 3, 4, 1, 0] rfl)
  have J5 : ∀ {K5 : Int32 → Int32 → Int32 → Int32 → Option (Int32)} (hK5 : ∀ {w1 : Int32} {w2 : Int32} {w3 : Int32} {w4 : Int32} {H : Heap} {locs : List Loc} {ls : Array Slot}, K5 w1 w2 w3 w4 = some r → WD g A s.heap (cl_X12 g a_T u_T v_T ++ X) H locs → lv_has ls 5 [(0, .ref (a_T 0)), (1, .int w1), (2, .int w2), (3, .int w3), (4, .int w4)] → W p l e (rmH 0) s m (List.toArray [.ref (a_T 0), .int x1, .int x2]) below meth c H locs 0 0 (MQ below (va_Qi (fun r2 (_ : Unit) => r2 = r) (fun _ t => POST g A (cl_X12 g a_T u_T v_T ++ X) t) A) (List.toArray [.ref (a_T 0), .int x1, .int x2]) s 0 0 A) (F0 m 5 ls [])), ∀ {w1 : Int32} {w2 : Int32} {w3 : Int32} {w4 : Int32} {H : Heap} {locs : List Loc} {ls : Array Slot}, f_X12_packed_J5 fu u_T v_T K5 w1 w2 w3 w4 = some r → WD g A s.heap (cl_X12 g a_T u_T v_T ++ X) H locs → lv_has ls 5 [(0, .ref (a_T 0)), (1, .int w1), (2, .int w2), (3, .int w3), (4, .int w4)] → W p l e (rmH 0) s m (List.toArray [.ref (a_T 0), .int x1, .int x2]) below meth c H locs 0 0 (MQ below (va_Qi (fun r2 (_ : Unit) => r2 = r) (fun _ t => POST g A (cl_X12 g a_T u_T v_T ++ X) t) A) (List.toArray [.ref (a_T 0), .int x1, .int x2]) s 0 0 A) (F0 m 5 ls []) := by
    intro K5 hK5 w1 w2 w3 w4 H locs ls hf hw hl
    unfold f_X12_packed_J5 at hf
    refine lv_iload hx hb dX12_packed_5 (lv_at hl 4 rfl) ?_
    refine lv_iload_n hx hb dX12_packed_7 rfl (lv_at hl 1 rfl) ?_
    refine lv_bipush (v := 6) hx hb dX12_packed_8 (by decide) ?_
    refine lv_iadd hx hb dX12_packed_10 ?_
    refine lv_icmp_ge (tgt := 45) hx hb dX12_packed_11 (by decide) (fun h_1 => ?_) (fun h_1 => ?_)
    · replace hf := tx_pos hf h_1
      refine lv_iload_n hx hb dX12_packed_45 rfl (lv_at hl 3 rfl) ?_
      obtain e0 := tx_in1 hf
      rw [← e0]
      exact tx_iret S hr hlk hw dX12_packed_46
    · replace hf := tx_neg hf h_1
      refine lv_iload_n hx hb dX12_packed_14 rfl (lv_at hl 3 rfl) ?_
      refine lv_iconst (v := 5) hx hb dX12_packed_15 (by decide) ?_
      refine lv_ishl hx hb dX12_packed_16 ?_
      refine lv_iload hx hb dX12_packed_17 (lv_at hl 4 rfl) ?_
      refine lv_iload_n hx hb dX12_packed_19 rfl (lv_at hl 2 rfl) ?_
      refine lv_icmp_ge (tgt := 36) hx hb dX12_packed_20 (by decide) (fun h_2 => ?_) (fun h_2 => ?_)
      · replace hf := tx_pos hf h_2
        refine lv_iconst (v := 0) hx hb dX12_packed_36 (by decide) ?_
        exact J37 hK5 hf hw (lv_sub hl [0, 1, 2, 4] rfl)
      · replace hf := tx_neg hf h_2
        refine lv_aload_n hx hb dX12_packed_23 rfl (lv_at hl 0 rfl) ?_
        refine gf_X12_7 S hE hw 0 rfl rfl dX12_packed_24 ?_
        refine lv_iload hx hb dX12_packed_27 (lv_at hl 4 rfl) ?_
        obtain ⟨h_3, hf⟩ := tx_ck_e hf
        refine tx_iald S hE hw 1 rfl h_3 dX12_packed_29 ?_
        refine lv_bipush (v := 96) hx hb dX12_packed_30 (by decide) ?_
        refine lv_isub hx hb dX12_packed_32 ?_
        refine lv_goto (tgt := 37) hx hb dX12_packed_33 (by decide) ?_
        exact J37 hK5 hf hw (lv_sub hl [0, 1, 2, 4] rfl)
  have L5 : ∀ (n : Nat), ∀ {w1 : Int32} {w2 : Int32} {w3 : Int32} {w4 : Int32} {H : Heap} {locs : List Loc} {ls : Array Slot}, f_X12_packed_L5 fu u_T v_T n w1 w2 w3 w4 = some r → WD g A s.heap (cl_X12 g a_T u_T v_T ++ X) H locs → lv_has ls 5 [(0, .ref (a_T 0)), (1, .int w1), (2, .int w2), (3, .int w3), (4, .int w4)] → W p l e (rmH 0) s m (List.toArray [.ref (a_T 0), .int x1, .int x2]) below meth c H locs 0 0 (MQ below (va_Qi (fun r2 (_ : Unit) => r2 = r) (fun _ t => POST g A (cl_X12 g a_T u_T v_T ++ X) t) A) (List.toArray [.ref (a_T 0), .int x1, .int x2]) s 0 0 A) (F0 m 5 ls []) := by
    intro  n
    induction n with
    | zero => intro w1 w2 w3 w4 H locs ls hf; exact absurd hf (by intro q; cases q)
    | succ n ih => exact fun hf hw hl => J5 ih hf hw hl
  unfold f_X12_packed at hf
  refine lv_iconst (v := 0) hx hb dX12_packed_0 (by decide) ?_
  refine lv_istore_n (lv' := [(3, .int (0 : Int32)), (0, .ref (a_T 0)), (1, .int x1), (2, .int x2)]) hx hb dX12_packed_1 rfl hl (by decide) rfl (fun ls hl => ?_)
  refine lv_iload_n hx hb dX12_packed_2 rfl (lv_at hl 2 rfl) ?_
  refine lv_istore (lv' := [(4, .int x1), (3, .int (0 : Int32)), (0, .ref (a_T 0)), (1, .int x1), (2, .int x2)]) hx hb dX12_packed_3 hl (by decide) rfl (fun ls hl => ?_)
  exact L5 fu hf hw (lv_sub hl [2, 3, 4, 1, 0] rfl)
def f_X12_token_J39 (fu : Nat) (v_T : S64) (K0 : S32 → Option (S32)) (u_T : S32) : Option (S32) := tx_let (up2 u_T 0 7 ((u_T 0 7) + (1 : Int32))) fun (u_T_40 : S32) => K0 u_T_40
def f_X12_token_J162 (fu : Nat) (v_T : S64) (u_T : S32) (t1 : Int32) : Option (S32) := tx_let (up2 u_T 0 8 t1) fun (u_T_35 : S32) => if (u_T_35 0 8) = (2 : Int32) then (tx_b1 (f_X12_packed fu u_T_35 v_T (u_T_35 0 10) (u_T_35 0 7)) fun (r_38 : Int32) => tx_let (up2 u_T_35 0 9 r_38) fun (u_T_39 : S32) => some u_T_39) else (some u_T_35)
def f_X12_token_J90 (fu : Nat) (v_T : S64) (K90 : S32 → Option (S32)) (u_T : S32) : Option (S32) := tx_b1 (f_X12_isSmall fu u_T v_T (u_T 0 7)) fun (r_27 : Int32) => if r_27 = (0 : Int32) then (tx_b1 (f_X12_wordAt fu u_T v_T (u_T 0 10) (u_T 0 7)) fun (r_30 : Int32) => tx_let (up2 u_T 0 9 r_30) fun (u_T_31 : S32) => if (u_T_31 0 9) < (0 : Int32) then (if ((u_T_31 0 7) - (u_T_31 0 10)) ≤ (6 : Int32) then (f_X12_token_J162 fu v_T u_T_31 (2 : Int32)) else (f_X12_token_J162 fu v_T u_T_31 (6 : Int32))) else (f_X12_token_J162 fu v_T u_T_31 (1 : Int32))) else (tx_let (up2 u_T 0 7 ((u_T 0 7) + (1 : Int32))) fun (u_T_34 : S32) => K90 u_T_34)
def f_X12_token_L90 (fu : Nat) (v_T : S64) : Nat → S32 → Option (S32)
  | 0 => fun _ => none
  | n + 1 => f_X12_token_J90 fu v_T (f_X12_token_L90 fu v_T n)
def f_X12_token_J261 (fu : Nat) (v_T : S64) (K213 : S32 → Option (S32)) (u_T : S32) (t1 : Int32) : Option (S32) := tx_let (up2 u_T 0 9 t1) fun (u_T_24 : S32) => tx_let (up2 u_T_24 0 7 ((u_T_24 0 7) + (1 : Int32))) fun (u_T_25 : S32) => K213 u_T_25
def f_X12_token_J213 (fu : Nat) (v_T : S64) (K213 : S32 → Option (S32)) (u_T : S32) : Option (S32) := tx_b1 (f_X12_isDigit fu u_T v_T (u_T 0 7)) fun (r_20 : Int32) => if r_20 = (0 : Int32) then (some u_T) else (if (u_T 0 9) ≤ (99999 : Int32) then (tx_ck (u_T 0 7) 700 <| f_X12_token_J261 fu v_T K213 u_T ((((10 : Int32) * (u_T 0 9)) + (u_T 1 (u_T 0 7).toNatClampNeg)) - (48 : Int32))) else (f_X12_token_J261 fu v_T K213 u_T (u_T 0 9)))
def f_X12_token_L213 (fu : Nat) (v_T : S64) : Nat → S32 → Option (S32)
  | 0 => fun _ => none
  | n + 1 => f_X12_token_J213 fu v_T (f_X12_token_L213 fu v_T n)
def f_X12_token_J52 (fu : Nat) (v_T : S64) (u_T : S32) : Option (S32) := tx_let (up2 u_T 0 10 (u_T 0 7)) fun (u_T_6 : S32) => if (u_T_6 0 7) = (u_T_6 0 6) then (tx_let (up2 u_T_6 0 8 (0 : Int32)) fun (u_T_18 : S32) => some u_T_18) else (tx_b1 (f_X12_isSmall fu u_T_6 v_T (u_T_6 0 7)) fun (r_9 : Int32) => if r_9 = (0 : Int32) then (tx_b1 (f_X12_isDigit fu u_T_6 v_T (u_T_6 0 7)) fun (r_12 : Int32) => if r_12 = (0 : Int32) then (tx_b1 (f_X12_signToken fu v_T u_T_6) fun (u_T_15 : S32) => some u_T_15) else (tx_let (up2 u_T_6 0 8 (3 : Int32)) fun (u_T_16 : S32) => tx_let (up2 u_T_16 0 9 (0 : Int32)) fun (u_T_17 : S32) => f_X12_token_L213 fu v_T fu u_T_17)) else (f_X12_token_L90 fu v_T fu u_T_6))
def f_X12_token_J0 (fu : Nat) (v_T : S64) (K0 : S32 → Option (S32)) (u_T : S32) : Option (S32) := if (u_T 0 6) ≤ (u_T 0 7) then (f_X12_token_J52 fu v_T u_T) else (tx_ck (u_T 0 7) 700 <| if (u_T 1 (u_T 0 7).toNatClampNeg) = (10 : Int32) then (f_X12_token_J39 fu v_T K0 u_T) else (tx_ck (u_T 0 7) 700 <| if (u_T 1 (u_T 0 7).toNatClampNeg) = (32 : Int32) then (f_X12_token_J39 fu v_T K0 u_T) else (f_X12_token_J52 fu v_T u_T)))
def f_X12_token_L0 (fu : Nat) (v_T : S64) : Nat → S32 → Option (S32)
  | 0 => fun _ => none
  | n + 1 => f_X12_token_J0 fu v_T (f_X12_token_L0 fu v_T n)
def f_X12_token (fu : Nat) (v_T : S64) (u_T : S32) : Option (S32) := f_X12_token_L0 fu v_T fu u_T
set_option maxHeartbeats 4000000 in
set_option maxRecDepth 100000 in
theorem c_X12_token {l : Launch} {g : GG} {A : Nat → Prop} {X : va_W} {fu : Nat} {a_T : Nat → Nat} {u_T : S32} {v_T : S64} {zu_T : S32} (hf : f_X12_token fu v_T u_T = some zu_T) : MV l yX12_token cX12_token 1 none 1 g A (cl_X12 g a_T u_T v_T ++ X) [.ref (a_T 0)] (cl_X12 g a_T zu_T v_T ++ X) := by
  refine tx_start (av := [.ref (a_T 0)]) (by decide) (Nat.le_of_ble_eq_true rfl) ?_
  intro p e s m below meth c ls S hr hlk hE hw hl
  have S : CallFix p m c cX12_token 1 s (List.toArray [.ref (a_T 0)]) (Cond.code yX12_token cX12_token 1 none :: allW) RX12 := S
  have hx := S.1
  have hb := S.2.1
  have hown := S.2.2.2.1
  have hts : ∀ w ∈ allW, w.before (List.toArray [.ref (a_T 0)]) s = true := fun w h => S.2.2.2.2 w (List.mem_cons_of_mem _ h)
  have hl : lv_has ls 1 [(0, .ref (a_T 0))] := hl
  have J39 : ∀ {K0 : S32 → Option (S32)} (hK0 : ∀ {u_T : S32} {H : Heap} {locs : List Loc} {ls : Array Slot}, K0 u_T = some zu_T → WD g A s.heap (cl_X12 g a_T u_T v_T ++ X) H locs → lv_has ls 1 [(0, .ref (a_T 0))] → W p l e (rmH 1) s m (List.toArray [.ref (a_T 0)]) below meth c H locs 0 0 (MQ below (va_Qv (fun (_ : Unit) => True) (fun _ t => POST g A (cl_X12 g a_T zu_T v_T ++ X) t) A) (List.toArray [.ref (a_T 0)]) s 0 0 A) (F0 m 0 ls [])), ∀ {u_T : S32} {H : Heap} {locs : List Loc} {ls : Array Slot}, f_X12_token_J39 fu v_T K0 u_T = some zu_T → WD g A s.heap (cl_X12 g a_T u_T v_T ++ X) H locs → lv_has ls 1 [(0, .ref (a_T 0))] → W p l e (rmH 1) s m (List.toArray [.ref (a_T 0)]) below meth c H locs 0 0 (MQ below (va_Qv (fun (_ : Unit) => True) (fun _ t => POST g A (cl_X12 g a_T zu_T v_T ++ X) t) A) (List.toArray [.ref (a_T 0)]) s 0 0 A) (F0 m 39 ls []) := by
    intro K0 hK0 u_T H locs ls hf hw hl
    unfold f_X12_token_J39 at hf
    refine lv_aload_n hx hb dX12_token_39 rfl (lv_at hl 0 rfl) ?_
    refine lv_dup hx hb dX12_token_40 rfl ?_
    refine gf_X12_160 S hE hw 0 rfl rfl dX12_token_41 ?_
    refine lv_iconst (v := 1) hx hb dX12_token_44 (by decide) ?_
    refine lv_iadd hx hb dX12_token_45 ?_
    obtain ⟨u_T_40, eu_T_40⟩ : ∃ z : S32, z = up2 u_T 0 7 ((u_T 0 7) + (1 : Int32)) := ⟨_, rfl⟩
    replace hf := tx_let_e hf eu_T_40
    refine pf_X12_160 (ws' := cl_X12 g a_T u_T_40 v_T ++ X) S hE hw rfl rfl 0 rfl (Nat.le_of_ble_eq_true rfl) (by rw [eu_T_40]; rfl) dX12_token_46 (fun H locs hw => ?_)
    refine lv_goto (tgt := 0) hx hb dX12_token_49 (by decide) ?_
    exact hK0 hf hw (lv_sub hl [0] rfl)
  have J162 : ∀ {u_T : S32} {t1 : Int32} {H : Heap} {locs : List Loc} {ls : Array Slot}, f_X12_token_J162 fu v_T u_T t1 = some zu_T → WD g A s.heap (cl_X12 g a_T u_T v_T ++ X) H locs → lv_has ls 1 [(0, .ref (a_T 0))] → W p l e (rmH 1) s m (List.toArray [.ref (a_T 0)]) below meth c H locs 0 0 (MQ below (va_Qv (fun (_ : Unit) => True) (fun _ t => POST g A (cl_X12 g a_T zu_T v_T ++ X) t) A) (List.toArray [.ref (a_T 0)]) s 0 0 A) (F0 m 162 ls [.int t1, .ref (a_T 0)]) := by
    intro u_T t1 H locs ls hf hw hl
    unfold f_X12_token_J162 at hf
    obtain ⟨u_T_35, eu_T_35⟩ : ∃ z : S32, z = up2 u_T 0 8 t1 := ⟨_, rfl⟩
    replace hf := tx_let_e hf eu_T_35
    refine pf_X12_163 (ws' := cl_X12 g a_T u_T_35 v_T ++ X) S hE hw rfl rfl 0 rfl (Nat.le_of_ble_eq_true rfl) (by rw [eu_T_35]; rfl) dX12_token_162 (fun H locs hw => ?_)
    refine lv_aload_n hx hb dX12_token_165 rfl (lv_at hl 0 rfl) ?_
    refine gf_X12_163 S hE hw 0 rfl rfl dX12_token_166 ?_
    refine lv_iconst (v := 2) hx hb dX12_token_169 (by decide) ?_
    refine lv_icmp_ne (tgt := 281) hx hb dX12_token_170 (by decide) (fun h_36 => ?_) (fun h_36 => ?_)
    · replace hf := tx_neg hf h_36
      obtain e0 := tx_in1 hf
      rw [← e0]
      exact tx_vret S hr hlk hw dX12_token_281
    · replace hf := tx_pos hf h_36
      refine lv_aload_n hx hb dX12_token_173 rfl (lv_at hl 0 rfl) ?_
      refine lv_aload_n hx hb dX12_token_174 rfl (lv_at hl 0 rfl) ?_
      refine lv_aload_n hx hb dX12_token_175 rfl (lv_at hl 0 rfl) ?_
      refine gf_X12_154 S hE hw 0 rfl rfl dX12_token_176 ?_
      refine lv_aload_n hx hb dX12_token_179 rfl (lv_at hl 0 rfl) ?_
      refine gf_X12_160 S hE hw 0 rfl rfl dX12_token_180 ?_
      obtain ⟨r_38, h_37, hf⟩ := tx_b1_e hf
      refine tx_ci hw (tx_runV S hE hw (c_X12_packed h_37) lk_X12_177 (q0 := 0) rfl rfl rfl hl.1 (rest := [.ref (a_T 0)]) rfl (Nat.le_of_ble_eq_true rfl) ⟨by decide, by decide⟩ dX12_token_183 ⟨Nat.zero_le _, Nat.zero_le _⟩) (fun H locs hw => ?_)
      obtain ⟨u_T_39, eu_T_39⟩ : ∃ z : S32, z = up2 u_T_35 0 9 r_38 := ⟨_, rfl⟩
      replace hf := tx_let_e hf eu_T_39
      refine pf_X12_174 (ws' := cl_X12 g a_T u_T_39 v_T ++ X) S hE hw rfl rfl 0 rfl (Nat.le_of_ble_eq_true rfl) (by rw [eu_T_39]; rfl) dX12_token_186 (fun H locs hw => ?_)
      refine lv_goto (tgt := 281) hx hb dX12_token_189 (by decide) ?_
      obtain e0 := tx_in1 hf
      rw [← e0]
      exact tx_vret S hr hlk hw dX12_token_281
  have J90 : ∀ {K90 : S32 → Option (S32)} (hK90 : ∀ {u_T : S32} {H : Heap} {locs : List Loc} {ls : Array Slot}, K90 u_T = some zu_T → WD g A s.heap (cl_X12 g a_T u_T v_T ++ X) H locs → lv_has ls 1 [(0, .ref (a_T 0))] → W p l e (rmH 1) s m (List.toArray [.ref (a_T 0)]) below meth c H locs 0 0 (MQ below (va_Qv (fun (_ : Unit) => True) (fun _ t => POST g A (cl_X12 g a_T zu_T v_T ++ X) t) A) (List.toArray [.ref (a_T 0)]) s 0 0 A) (F0 m 90 ls [])), ∀ {u_T : S32} {H : Heap} {locs : List Loc} {ls : Array Slot}, f_X12_token_J90 fu v_T K90 u_T = some zu_T → WD g A s.heap (cl_X12 g a_T u_T v_T ++ X) H locs → lv_has ls 1 [(0, .ref (a_T 0))] → W p l e (rmH 1) s m (List.toArray [.ref (a_T 0)]) below meth c H locs 0 0 (MQ below (va_Qv (fun (_ : Unit) => True) (fun _ t => POST g A (cl_X12 g a_T zu_T v_T ++ X) t) A) (List.toArray [.ref (a_T 0)]) s 0 0 A) (F0 m 90 ls []) := by
    intro K90 hK90 u_T H locs ls hf hw hl
    unfold f_X12_token_J90 at hf
    refine lv_aload_n hx hb dX12_token_90 rfl (lv_at hl 0 rfl) ?_
    refine lv_aload_n hx hb dX12_token_91 rfl (lv_at hl 0 rfl) ?_
    refine gf_X12_160 S hE hw 0 rfl rfl dX12_token_92 ?_
    obtain ⟨r_27, h_26, hf⟩ := tx_b1_e hf
    refine tx_ci hw (tx_runV S hE hw (c_X12_isSmall h_26) lk_X12_166 (q0 := 0) rfl rfl rfl hl.1 (rest := []) rfl (Nat.le_of_ble_eq_true rfl) ⟨by decide, by decide⟩ dX12_token_95 ⟨Nat.zero_le _, Nat.zero_le _⟩) (fun H locs hw => ?_)
    refine lv_if_eq (tgt := 114) hx hb dX12_token_98 (by decide) (fun h_28 => ?_) (fun h_28 => ?_)
    · replace hf := tx_pos hf h_28
      refine lv_aload_n hx hb dX12_token_114 rfl (lv_at hl 0 rfl) ?_
      refine lv_aload_n hx hb dX12_token_115 rfl (lv_at hl 0 rfl) ?_
      refine lv_aload_n hx hb dX12_token_116 rfl (lv_at hl 0 rfl) ?_
      refine gf_X12_154 S hE hw 0 rfl rfl dX12_token_117 ?_
      refine lv_aload_n hx hb dX12_token_120 rfl (lv_at hl 0 rfl) ?_
      refine gf_X12_160 S hE hw 0 rfl rfl dX12_token_121 ?_
      obtain ⟨r_30, h_29, hf⟩ := tx_b1_e hf
      refine tx_ci hw (tx_runV S hE hw (c_X12_wordAt h_29) lk_X12_170 (q0 := 0) rfl rfl rfl hl.1 (rest := [.ref (a_T 0)]) rfl (Nat.le_of_ble_eq_true rfl) ⟨by decide, by decide⟩ dX12_token_124 ⟨Nat.zero_le _, Nat.zero_le _⟩) (fun H locs hw => ?_)
      obtain ⟨u_T_31, eu_T_31⟩ : ∃ z : S32, z = up2 u_T 0 9 r_30 := ⟨_, rfl⟩
      replace hf := tx_let_e hf eu_T_31
      refine pf_X12_174 (ws' := cl_X12 g a_T u_T_31 v_T ++ X) S hE hw rfl rfl 0 rfl (Nat.le_of_ble_eq_true rfl) (by rw [eu_T_31]; rfl) dX12_token_127 (fun H locs hw => ?_)
      refine lv_aload_n hx hb dX12_token_130 rfl (lv_at hl 0 rfl) ?_
      refine lv_aload_n hx hb dX12_token_131 rfl (lv_at hl 0 rfl) ?_
      refine gf_X12_174 S hE hw 0 rfl rfl dX12_token_132 ?_
      refine lv_if_lt (tgt := 142) hx hb dX12_token_135 (by decide) (fun h_32 => ?_) (fun h_32 => ?_)
      · replace hf := tx_pos hf h_32
        refine lv_aload_n hx hb dX12_token_142 rfl (lv_at hl 0 rfl) ?_
        refine gf_X12_160 S hE hw 0 rfl rfl dX12_token_143 ?_
        refine lv_aload_n hx hb dX12_token_146 rfl (lv_at hl 0 rfl) ?_
        refine gf_X12_154 S hE hw 0 rfl rfl dX12_token_147 ?_
        refine lv_isub hx hb dX12_token_150 ?_
        refine lv_bipush (v := 6) hx hb dX12_token_151 (by decide) ?_
        refine lv_icmp_le (tgt := 161) hx hb dX12_token_153 (by decide) (fun h_33 => ?_) (fun h_33 => ?_)
        · replace hf := tx_pos hf h_33
          refine lv_iconst (v := 2) hx hb dX12_token_161 (by decide) ?_
          exact J162 hf hw (lv_sub hl [0] rfl)
        · replace hf := tx_neg hf h_33
          refine lv_bipush (v := 6) hx hb dX12_token_156 (by decide) ?_
          refine lv_goto (tgt := 162) hx hb dX12_token_158 (by decide) ?_
          exact J162 hf hw (lv_sub hl [0] rfl)
      · replace hf := tx_neg hf h_32
        refine lv_iconst (v := 1) hx hb dX12_token_138 (by decide) ?_
        refine lv_goto (tgt := 162) hx hb dX12_token_139 (by decide) ?_
        exact J162 hf hw (lv_sub hl [0] rfl)
    · replace hf := tx_neg hf h_28
      refine lv_aload_n hx hb dX12_token_101 rfl (lv_at hl 0 rfl) ?_
      refine lv_dup hx hb dX12_token_102 rfl ?_
      refine gf_X12_160 S hE hw 0 rfl rfl dX12_token_103 ?_
      refine lv_iconst (v := 1) hx hb dX12_token_106 (by decide) ?_
      refine lv_iadd hx hb dX12_token_107 ?_
      obtain ⟨u_T_34, eu_T_34⟩ : ∃ z : S32, z = up2 u_T 0 7 ((u_T 0 7) + (1 : Int32)) := ⟨_, rfl⟩
      replace hf := tx_let_e hf eu_T_34
      refine pf_X12_160 (ws' := cl_X12 g a_T u_T_34 v_T ++ X) S hE hw rfl rfl 0 rfl (Nat.le_of_ble_eq_true rfl) (by rw [eu_T_34]; rfl) dX12_token_108 (fun H locs hw => ?_)
      refine lv_goto (tgt := 90) hx hb dX12_token_111 (by decide) ?_
      exact hK90 hf hw (lv_sub hl [0] rfl)
  have L90 : ∀ (n : Nat), ∀ {u_T : S32} {H : Heap} {locs : List Loc} {ls : Array Slot}, f_X12_token_L90 fu v_T n u_T = some zu_T → WD g A s.heap (cl_X12 g a_T u_T v_T ++ X) H locs → lv_has ls 1 [(0, .ref (a_T 0))] → W p l e (rmH 1) s m (List.toArray [.ref (a_T 0)]) below meth c H locs 0 0 (MQ below (va_Qv (fun (_ : Unit) => True) (fun _ t => POST g A (cl_X12 g a_T zu_T v_T ++ X) t) A) (List.toArray [.ref (a_T 0)]) s 0 0 A) (F0 m 90 ls []) := by
    intro  n
    induction n with
    | zero => intro u_T H locs ls hf; exact absurd hf (by intro q; cases q)
    | succ n ih => exact fun hf hw hl => J90 ih hf hw hl
  have J261 : ∀ {K213 : S32 → Option (S32)} (hK213 : ∀ {u_T : S32} {H : Heap} {locs : List Loc} {ls : Array Slot}, K213 u_T = some zu_T → WD g A s.heap (cl_X12 g a_T u_T v_T ++ X) H locs → lv_has ls 1 [(0, .ref (a_T 0))] → W p l e (rmH 1) s m (List.toArray [.ref (a_T 0)]) below meth c H locs 0 0 (MQ below (va_Qv (fun (_ : Unit) => True) (fun _ t => POST g A (cl_X12 g a_T zu_T v_T ++ X) t) A) (List.toArray [.ref (a_T 0)]) s 0 0 A) (F0 m 213 ls [])), ∀ {u_T : S32} {t1 : Int32} {H : Heap} {locs : List Loc} {ls : Array Slot}, f_X12_token_J261 fu v_T K213 u_T t1 = some zu_T → WD g A s.heap (cl_X12 g a_T u_T v_T ++ X) H locs → lv_has ls 1 [(0, .ref (a_T 0))] → W p l e (rmH 1) s m (List.toArray [.ref (a_T 0)]) below meth c H locs 0 0 (MQ below (va_Qv (fun (_ : Unit) => True) (fun _ t => POST g A (cl_X12 g a_T zu_T v_T ++ X) t) A) (List.toArray [.ref (a_T 0)]) s 0 0 A) (F0 m 261 ls [.int t1, .ref (a_T 0)]) := by
    intro K213 hK213 u_T t1 H locs ls hf hw hl
    unfold f_X12_token_J261 at hf
    obtain ⟨u_T_24, eu_T_24⟩ : ∃ z : S32, z = up2 u_T 0 9 t1 := ⟨_, rfl⟩
    replace hf := tx_let_e hf eu_T_24
    refine pf_X12_174 (ws' := cl_X12 g a_T u_T_24 v_T ++ X) S hE hw rfl rfl 0 rfl (Nat.le_of_ble_eq_true rfl) (by rw [eu_T_24]; rfl) dX12_token_261 (fun H locs hw => ?_)
    refine lv_aload_n hx hb dX12_token_264 rfl (lv_at hl 0 rfl) ?_
    refine lv_dup hx hb dX12_token_265 rfl ?_
    refine gf_X12_160 S hE hw 0 rfl rfl dX12_token_266 ?_
    refine lv_iconst (v := 1) hx hb dX12_token_269 (by decide) ?_
    refine lv_iadd hx hb dX12_token_270 ?_
    obtain ⟨u_T_25, eu_T_25⟩ : ∃ z : S32, z = up2 u_T_24 0 7 ((u_T_24 0 7) + (1 : Int32)) := ⟨_, rfl⟩
    replace hf := tx_let_e hf eu_T_25
    refine pf_X12_160 (ws' := cl_X12 g a_T u_T_25 v_T ++ X) S hE hw rfl rfl 0 rfl (Nat.le_of_ble_eq_true rfl) (by rw [eu_T_25]; rfl) dX12_token_271 (fun H locs hw => ?_)
    refine lv_goto (tgt := 213) hx hb dX12_token_274 (by decide) ?_
    exact hK213 hf hw (lv_sub hl [0] rfl)
  have J213 : ∀ {K213 : S32 → Option (S32)} (hK213 : ∀ {u_T : S32} {H : Heap} {locs : List Loc} {ls : Array Slot}, K213 u_T = some zu_T → WD g A s.heap (cl_X12 g a_T u_T v_T ++ X) H locs → lv_has ls 1 [(0, .ref (a_T 0))] → W p l e (rmH 1) s m (List.toArray [.ref (a_T 0)]) below meth c H locs 0 0 (MQ below (va_Qv (fun (_ : Unit) => True) (fun _ t => POST g A (cl_X12 g a_T zu_T v_T ++ X) t) A) (List.toArray [.ref (a_T 0)]) s 0 0 A) (F0 m 213 ls [])), ∀ {u_T : S32} {H : Heap} {locs : List Loc} {ls : Array Slot}, f_X12_token_J213 fu v_T K213 u_T = some zu_T → WD g A s.heap (cl_X12 g a_T u_T v_T ++ X) H locs → lv_has ls 1 [(0, .ref (a_T 0))] → W p l e (rmH 1) s m (List.toArray [.ref (a_T 0)]) below meth c H locs 0 0 (MQ below (va_Qv (fun (_ : Unit) => True) (fun _ t => POST g A (cl_X12 g a_T zu_T v_T ++ X) t) A) (List.toArray [.ref (a_T 0)]) s 0 0 A) (F0 m 213 ls []) := by
    intro K213 hK213 u_T H locs ls hf hw hl
    unfold f_X12_token_J213 at hf
    refine lv_aload_n hx hb dX12_token_213 rfl (lv_at hl 0 rfl) ?_
    refine lv_aload_n hx hb dX12_token_214 rfl (lv_at hl 0 rfl) ?_
    refine gf_X12_160 S hE hw 0 rfl rfl dX12_token_215 ?_
    obtain ⟨r_20, h_19, hf⟩ := tx_b1_e hf
    refine tx_ci hw (tx_runV S hE hw (c_X12_isDigit h_19) lk_X12_180 (q0 := 0) rfl rfl rfl hl.1 (rest := []) rfl (Nat.le_of_ble_eq_true rfl) ⟨by decide, by decide⟩ dX12_token_218 ⟨Nat.zero_le _, Nat.zero_le _⟩) (fun H locs hw => ?_)
    refine lv_if_eq (tgt := 281) hx hb dX12_token_221 (by decide) (fun h_21 => ?_) (fun h_21 => ?_)
    · replace hf := tx_pos hf h_21
      obtain e0 := tx_in1 hf
      rw [← e0]
      exact tx_vret S hr hlk hw dX12_token_281
    · replace hf := tx_neg hf h_21
      refine lv_aload_n hx hb dX12_token_224 rfl (lv_at hl 0 rfl) ?_
      refine lv_aload_n hx hb dX12_token_225 rfl (lv_at hl 0 rfl) ?_
      refine gf_X12_174 S hE hw 0 rfl rfl dX12_token_226 ?_
      refine lv_ldc (v := 99999) hx hb hown (hts _ kw_1623) dX12_token_229 ?_
      refine lv_icmp_le (tgt := 241) hx hb dX12_token_231 (by decide) (fun h_22 => ?_) (fun h_22 => ?_)
      · replace hf := tx_pos hf h_22
        refine lv_bipush (v := 10) hx hb dX12_token_241 (by decide) ?_
        refine lv_aload_n hx hb dX12_token_243 rfl (lv_at hl 0 rfl) ?_
        refine gf_X12_174 S hE hw 0 rfl rfl dX12_token_244 ?_
        refine lv_imul hx hb dX12_token_247 ?_
        refine lv_aload_n hx hb dX12_token_248 rfl (lv_at hl 0 rfl) ?_
        refine gf_X12_7 S hE hw 0 rfl rfl dX12_token_249 ?_
        refine lv_aload_n hx hb dX12_token_252 rfl (lv_at hl 0 rfl) ?_
        refine gf_X12_160 S hE hw 0 rfl rfl dX12_token_253 ?_
        obtain ⟨h_23, hf⟩ := tx_ck_e hf
        refine tx_iald S hE hw 1 rfl h_23 dX12_token_256 ?_
        refine lv_iadd hx hb dX12_token_257 ?_
        refine lv_bipush (v := 48) hx hb dX12_token_258 (by decide) ?_
        refine lv_isub hx hb dX12_token_260 ?_
        exact J261 hK213 hf hw (lv_sub hl [0] rfl)
      · replace hf := tx_neg hf h_22
        refine lv_aload_n hx hb dX12_token_234 rfl (lv_at hl 0 rfl) ?_
        refine gf_X12_174 S hE hw 0 rfl rfl dX12_token_235 ?_
        refine lv_goto (tgt := 261) hx hb dX12_token_238 (by decide) ?_
        exact J261 hK213 hf hw (lv_sub hl [0] rfl)
  have L213 : ∀ (n : Nat), ∀ {u_T : S32} {H : Heap} {locs : List Loc} {ls : Array Slot}, f_X12_token_L213 fu v_T n u_T = some zu_T → WD g A s.heap (cl_X12 g a_T u_T v_T ++ X) H locs → lv_has ls 1 [(0, .ref (a_T 0))] → W p l e (rmH 1) s m (List.toArray [.ref (a_T 0)]) below meth c H locs 0 0 (MQ below (va_Qv (fun (_ : Unit) => True) (fun _ t => POST g A (cl_X12 g a_T zu_T v_T ++ X) t) A) (List.toArray [.ref (a_T 0)]) s 0 0 A) (F0 m 213 ls []) := by
    intro  n
    induction n with
    | zero => intro u_T H locs ls hf; exact absurd hf (by intro q; cases q)
    | succ n ih => exact fun hf hw hl => J213 ih hf hw hl
  have J52 : ∀ {u_T : S32} {H : Heap} {locs : List Loc} {ls : Array Slot}, f_X12_token_J52 fu v_T u_T = some zu_T → WD g A s.heap (cl_X12 g a_T u_T v_T ++ X) H locs → lv_has ls 1 [(0, .ref (a_T 0))] → W p l e (rmH 1) s m (List.toArray [.ref (a_T 0)]) below meth c H locs 0 0 (MQ below (va_Qv (fun (_ : Unit) => True) (fun _ t => POST g A (cl_X12 g a_T zu_T v_T ++ X) t) A) (List.toArray [.ref (a_T 0)]) s 0 0 A) (F0 m 52 ls []) := by
    intro u_T H locs ls hf hw hl
    unfold f_X12_token_J52 at hf
    refine lv_aload_n hx hb dX12_token_52 rfl (lv_at hl 0 rfl) ?_
    refine lv_aload_n hx hb dX12_token_53 rfl (lv_at hl 0 rfl) ?_
    refine gf_X12_160 S hE hw 0 rfl rfl dX12_token_54 ?_
    obtain ⟨u_T_6, eu_T_6⟩ : ∃ z : S32, z = up2 u_T 0 10 (u_T 0 7) := ⟨_, rfl⟩
    replace hf := tx_let_e hf eu_T_6
    refine pf_X12_154 (ws' := cl_X12 g a_T u_T_6 v_T ++ X) S hE hw rfl rfl 0 rfl (Nat.le_of_ble_eq_true rfl) (by rw [eu_T_6]; rfl) dX12_token_57 (fun H locs hw => ?_)
    refine lv_aload_n hx hb dX12_token_60 rfl (lv_at hl 0 rfl) ?_
    refine gf_X12_160 S hE hw 0 rfl rfl dX12_token_61 ?_
    refine lv_aload_n hx hb dX12_token_64 rfl (lv_at hl 0 rfl) ?_
    refine gf_X12_157 S hE hw 0 rfl rfl dX12_token_65 ?_
    refine lv_icmp_ne (tgt := 79) hx hb dX12_token_68 (by decide) (fun h_7 => ?_) (fun h_7 => ?_)
    · replace hf := tx_neg hf h_7
      refine lv_aload_n hx hb dX12_token_79 rfl (lv_at hl 0 rfl) ?_
      refine lv_aload_n hx hb dX12_token_80 rfl (lv_at hl 0 rfl) ?_
      refine gf_X12_160 S hE hw 0 rfl rfl dX12_token_81 ?_
      obtain ⟨r_9, h_8, hf⟩ := tx_b1_e hf
      refine tx_ci hw (tx_runV S hE hw (c_X12_isSmall h_8) lk_X12_166 (q0 := 0) rfl rfl rfl hl.1 (rest := []) rfl (Nat.le_of_ble_eq_true rfl) ⟨by decide, by decide⟩ dX12_token_84 ⟨Nat.zero_le _, Nat.zero_le _⟩) (fun H locs hw => ?_)
      refine lv_if_eq (tgt := 192) hx hb dX12_token_87 (by decide) (fun h_10 => ?_) (fun h_10 => ?_)
      · replace hf := tx_pos hf h_10
        refine lv_aload_n hx hb dX12_token_192 rfl (lv_at hl 0 rfl) ?_
        refine lv_aload_n hx hb dX12_token_193 rfl (lv_at hl 0 rfl) ?_
        refine gf_X12_160 S hE hw 0 rfl rfl dX12_token_194 ?_
        obtain ⟨r_12, h_11, hf⟩ := tx_b1_e hf
        refine tx_ci hw (tx_runV S hE hw (c_X12_isDigit h_11) lk_X12_180 (q0 := 0) rfl rfl rfl hl.1 (rest := []) rfl (Nat.le_of_ble_eq_true rfl) ⟨by decide, by decide⟩ dX12_token_197 ⟨Nat.zero_le _, Nat.zero_le _⟩) (fun H locs hw => ?_)
        refine lv_if_eq (tgt := 277) hx hb dX12_token_200 (by decide) (fun h_13 => ?_) (fun h_13 => ?_)
        · replace hf := tx_pos hf h_13
          refine lv_aload_n hx hb dX12_token_277 rfl (lv_at hl 0 rfl) ?_
          obtain ⟨u_T_15, h_14, hf⟩ := tx_b1_e hf
          refine tx_cv hw (tx_runV S hE hw (c_X12_signToken h_14) lk_X12_184 (q0 := 0) rfl rfl rfl hl.1 (rest := []) rfl (Nat.le_of_ble_eq_true rfl) ⟨by decide, by decide⟩ dX12_token_278 ⟨Nat.zero_le _, Nat.zero_le _⟩) (fun H locs hw => ?_)
          obtain e0 := tx_in1 hf
          rw [← e0]
          exact tx_vret S hr hlk hw dX12_token_281
        · replace hf := tx_neg hf h_13
          refine lv_aload_n hx hb dX12_token_203 rfl (lv_at hl 0 rfl) ?_
          refine lv_iconst (v := 3) hx hb dX12_token_204 (by decide) ?_
          obtain ⟨u_T_16, eu_T_16⟩ : ∃ z : S32, z = up2 u_T_6 0 8 (3 : Int32) := ⟨_, rfl⟩
          replace hf := tx_let_e hf eu_T_16
          refine pf_X12_163 (ws' := cl_X12 g a_T u_T_16 v_T ++ X) S hE hw rfl rfl 0 rfl (Nat.le_of_ble_eq_true rfl) (by rw [eu_T_16]; rfl) dX12_token_205 (fun H locs hw => ?_)
          refine lv_aload_n hx hb dX12_token_208 rfl (lv_at hl 0 rfl) ?_
          refine lv_iconst (v := 0) hx hb dX12_token_209 (by decide) ?_
          obtain ⟨u_T_17, eu_T_17⟩ : ∃ z : S32, z = up2 u_T_16 0 9 (0 : Int32) := ⟨_, rfl⟩
          replace hf := tx_let_e hf eu_T_17
          refine pf_X12_174 (ws' := cl_X12 g a_T u_T_17 v_T ++ X) S hE hw rfl rfl 0 rfl (Nat.le_of_ble_eq_true rfl) (by rw [eu_T_17]; rfl) dX12_token_210 (fun H locs hw => ?_)
          exact L213 fu hf hw (lv_sub hl [0] rfl)
      · replace hf := tx_neg hf h_10
        exact L90 fu hf hw (lv_sub hl [0] rfl)
    · replace hf := tx_pos hf h_7
      refine lv_aload_n hx hb dX12_token_71 rfl (lv_at hl 0 rfl) ?_
      refine lv_iconst (v := 0) hx hb dX12_token_72 (by decide) ?_
      obtain ⟨u_T_18, eu_T_18⟩ : ∃ z : S32, z = up2 u_T_6 0 8 (0 : Int32) := ⟨_, rfl⟩
      replace hf := tx_let_e hf eu_T_18
      refine pf_X12_163 (ws' := cl_X12 g a_T u_T_18 v_T ++ X) S hE hw rfl rfl 0 rfl (Nat.le_of_ble_eq_true rfl) (by rw [eu_T_18]; rfl) dX12_token_73 (fun H locs hw => ?_)
      refine lv_goto (tgt := 281) hx hb dX12_token_76 (by decide) ?_
      obtain e0 := tx_in1 hf
      rw [← e0]
      exact tx_vret S hr hlk hw dX12_token_281
  have J0 : ∀ {K0 : S32 → Option (S32)} (hK0 : ∀ {u_T : S32} {H : Heap} {locs : List Loc} {ls : Array Slot}, K0 u_T = some zu_T → WD g A s.heap (cl_X12 g a_T u_T v_T ++ X) H locs → lv_has ls 1 [(0, .ref (a_T 0))] → W p l e (rmH 1) s m (List.toArray [.ref (a_T 0)]) below meth c H locs 0 0 (MQ below (va_Qv (fun (_ : Unit) => True) (fun _ t => POST g A (cl_X12 g a_T zu_T v_T ++ X) t) A) (List.toArray [.ref (a_T 0)]) s 0 0 A) (F0 m 0 ls [])), ∀ {u_T : S32} {H : Heap} {locs : List Loc} {ls : Array Slot}, f_X12_token_J0 fu v_T K0 u_T = some zu_T → WD g A s.heap (cl_X12 g a_T u_T v_T ++ X) H locs → lv_has ls 1 [(0, .ref (a_T 0))] → W p l e (rmH 1) s m (List.toArray [.ref (a_T 0)]) below meth c H locs 0 0 (MQ below (va_Qv (fun (_ : Unit) => True) (fun _ t => POST g A (cl_X12 g a_T zu_T v_T ++ X) t) A) (List.toArray [.ref (a_T 0)]) s 0 0 A) (F0 m 0 ls []) := by
    intro K0 hK0 u_T H locs ls hf hw hl
    unfold f_X12_token_J0 at hf
    refine lv_aload_n hx hb dX12_token_0 rfl (lv_at hl 0 rfl) ?_
    refine gf_X12_160 S hE hw 0 rfl rfl dX12_token_1 ?_
    refine lv_aload_n hx hb dX12_token_4 rfl (lv_at hl 0 rfl) ?_
    refine gf_X12_157 S hE hw 0 rfl rfl dX12_token_5 ?_
    refine lv_icmp_ge (tgt := 52) hx hb dX12_token_8 (by decide) (fun h_1 => ?_) (fun h_1 => ?_)
    · replace hf := tx_pos hf h_1
      exact J52 hf hw (lv_sub hl [0] rfl)
    · replace hf := tx_neg hf h_1
      refine lv_aload_n hx hb dX12_token_11 rfl (lv_at hl 0 rfl) ?_
      refine gf_X12_7 S hE hw 0 rfl rfl dX12_token_12 ?_
      refine lv_aload_n hx hb dX12_token_15 rfl (lv_at hl 0 rfl) ?_
      refine gf_X12_160 S hE hw 0 rfl rfl dX12_token_16 ?_
      obtain ⟨h_2, hf⟩ := tx_ck_e hf
      refine tx_iald S hE hw 1 rfl h_2 dX12_token_19 ?_
      refine lv_bipush (v := 10) hx hb dX12_token_20 (by decide) ?_
      refine lv_icmp_eq (tgt := 39) hx hb dX12_token_22 (by decide) (fun h_3 => ?_) (fun h_3 => ?_)
      · replace hf := tx_pos hf h_3
        exact J39 hK0 hf hw (lv_sub hl [0] rfl)
      · replace hf := tx_neg hf h_3
        refine lv_aload_n hx hb dX12_token_25 rfl (lv_at hl 0 rfl) ?_
        refine gf_X12_7 S hE hw 0 rfl rfl dX12_token_26 ?_
        refine lv_aload_n hx hb dX12_token_29 rfl (lv_at hl 0 rfl) ?_
        refine gf_X12_160 S hE hw 0 rfl rfl dX12_token_30 ?_
        obtain ⟨h_4, hf⟩ := tx_ck_e hf
        refine tx_iald S hE hw 1 rfl h_4 dX12_token_33 ?_
        refine lv_bipush (v := 32) hx hb dX12_token_34 (by decide) ?_
        refine lv_icmp_ne (tgt := 52) hx hb dX12_token_36 (by decide) (fun h_5 => ?_) (fun h_5 => ?_)
        · replace hf := tx_neg hf h_5
          exact J52 hf hw (lv_sub hl [0] rfl)
        · replace hf := tx_pos hf h_5
          exact J39 hK0 hf hw (lv_sub hl [0] rfl)
  have L0 : ∀ (n : Nat), ∀ {u_T : S32} {H : Heap} {locs : List Loc} {ls : Array Slot}, f_X12_token_L0 fu v_T n u_T = some zu_T → WD g A s.heap (cl_X12 g a_T u_T v_T ++ X) H locs → lv_has ls 1 [(0, .ref (a_T 0))] → W p l e (rmH 1) s m (List.toArray [.ref (a_T 0)]) below meth c H locs 0 0 (MQ below (va_Qv (fun (_ : Unit) => True) (fun _ t => POST g A (cl_X12 g a_T zu_T v_T ++ X) t) A) (List.toArray [.ref (a_T 0)]) s 0 0 A) (F0 m 0 ls []) := by
    intro  n
    induction n with
    | zero => intro u_T H locs ls hf; exact absurd hf (by intro q; cases q)
    | succ n ih => exact fun hf hw hl => J0 ih hf hw hl
  unfold f_X12_token at hf
  exact L0 fu hf hw (lv_sub hl [0] rfl)
