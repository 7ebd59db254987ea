theorem tx_cmpr2 (r : Int64) : lg_cmp r r = 0 := by unfold lg_cmp; rw [if_neg (by simp), if_pos rfl]
set_option maxHeartbeats 4000000 in
set_option maxRecDepth 100000 in
theorem law_c22 {p : Program} {l : Launch} {e : Env} {s : State} {m : MethodId} {below : List Frame} {meth : Method} {c : Code} {H : Heap} {locs : List Loc} {cells slots : Nat} {Q : State → Prop} {g : GG} {A : Nat → Prop} {X : va_W} {fu : Nat} {b L qo : Nat} {xs : Nat → Int32} {x4 : Int32} {ls : Array Slot} {kc : Cond} {a_T a_W a_B a_G a_F a_D a_Y a_W3 a_N3 a_W2 a_N2 a_N a_Z a_R a_K a_B2 a_L2 a_L a_P a_M : Nat → Nat} {p_W2_0 p_W3_0 p_Z_4 p_R_8 : Nat} {u_T : S32} {u_W : S32} {u_B : S32} {u_G : S32} {u_F : S32} {u_D : S32} {u_Y : S32} {u_W3 : S32} {v_N3 : S64} {u_W2 : S32} {v_N2 : S64} {v_N : S64} {u_Z : S32} {u_R : S32} {u_K : S32} {u_B2 : S32} {u_L2 : S32} {v_L2 : S64} {u_L : S32} {v_L : S64} {u_P : S32} {u_M : S32} {v_M : S64} {r : Int32} {zu_G : S32} {zu_M : S32} (S : CallFix p m c code 7 s #[Value.ref b] (kc :: allW) RL) (hE : EN g A s) (hX : va_X b L xs s s.heap) (hbl : b < s.heap.size) (hbA : ¬ A b) (hcs : cells ≤ room_1.cells ∧ slots ≤ room_1.slots) (hi1 : vp_in (x4 + (1 : Int32)) L) (hc : f_X11_rest fu u_T u_W u_B u_G (xs (x4 + (1 : Int32)).toNatClampNeg) = some (r, zu_G)) (hm : f_X12_rest fu v_M u_M (xs (x4 + (1 : Int32)).toNatClampNeg) = some (r, zu_M)) (hw : WD g A s.heap (cl_X11 g a_T (a_P 0) (a_B 0) (a_B2 0) (a_Z 0) (a_W 0) (a_W2 0) (a_Y 0) (a_D 0) (a_F 0) (a_G 0) u_T ++ (cl_X10 g a_W (a_B 0) (a_N 0) u_W ++ (cl_X0 g a_B (a_L 0) u_B ++ (cl_X3 g a_G u_G ++ (cl_X2 g a_F u_F ++ (cl_X1 g a_D u_D ++ (cl_X9 g a_Y (a_W3 0) u_Y ++ (cl_X10 g a_W3 p_W3_0 (a_N3 0) u_W3 ++ (cl_N g a_N3 v_N3 ++ (cl_X10 g a_W2 p_W2_0 (a_N2 0) u_W2 ++ (cl_N g a_N2 v_N2 ++ (cl_N g a_N v_N ++ (cl_X7 g a_Z (a_K 0) (a_R 0) p_Z_4 u_Z ++ (cl_X4 g a_R (a_K 0) p_R_8 u_R ++ (cl_X8 g a_K (a_P 0) u_K ++ (cl_X0 g a_B2 (a_L2 0) u_B2 ++ (cl_X5 g a_L2 u_L2 v_L2 ++ (cl_X5 g a_L u_L v_L ++ (cl_X6 g a_P u_P ++ (cl_X12 g a_M u_M v_M ++ X)))))))))))))))))))) H locs) (hl : lv_has ls 7 [(0, .ref b), (1, .ref (a_T 0)), (2, .ref (a_M 0)), (3, .ref qo), (4, .int x4)]) (kk : ∀ {H : Heap} {locs : List Loc}, WD g A s.heap (cl_X11 g a_T (a_P 0) (a_B 0) (a_B2 0) (a_Z 0) (a_W 0) (a_W2 0) (a_Y 0) (a_D 0) (a_F 0) (a_G 0) u_T ++ (cl_X10 g a_W (a_B 0) (a_N 0) u_W ++ (cl_X0 g a_B (a_L 0) u_B ++ (cl_X3 g a_G zu_G ++ (cl_X2 g a_F u_F ++ (cl_X1 g a_D u_D ++ (cl_X9 g a_Y (a_W3 0) u_Y ++ (cl_X10 g a_W3 p_W3_0 (a_N3 0) u_W3 ++ (cl_N g a_N3 v_N3 ++ (cl_X10 g a_W2 p_W2_0 (a_N2 0) u_W2 ++ (cl_N g a_N2 v_N2 ++ (cl_N g a_N v_N ++ (cl_X7 g a_Z (a_K 0) (a_R 0) p_Z_4 u_Z ++ (cl_X4 g a_R (a_K 0) p_R_8 u_R ++ (cl_X8 g a_K (a_P 0) u_K ++ (cl_X0 g a_B2 (a_L2 0) u_B2 ++ (cl_X5 g a_L2 u_L2 v_L2 ++ (cl_X5 g a_L u_L v_L ++ (cl_X6 g a_P u_P ++ (cl_X12 g a_M zu_M v_M ++ X)))))))))))))))))))) H locs → lv_has ls 7 [(0, .ref b), (1, .ref (a_T 0)), (2, .ref (a_M 0)), (3, .ref qo), (4, .int x4)] → W p l e room_1 s m #[Value.ref b] below meth c H locs cells slots Q (F0 m 1567 ls [])) : W p l e room_1 s m #[Value.ref b] below meth c H locs cells slots Q (F0 m 990 ls []) := by
  have hx := S.1
  have hb := S.2.1
  refine lv_aload_n hx hb dL_law_990 rfl (lv_at hl 1 rfl) ?_
  refine lv_aload_n hx hb dL_law_991 rfl (lv_at hl 0 rfl) ?_
  refine lv_iload hx hb dL_law_992 (lv_at hl 4 rfl) ?_
  refine lv_iconst (v := 1) hx hb dL_law_994 (by decide) ?_
  refine lv_iadd hx hb dL_law_995 ?_
  refine va_sld hx hb hX hbl hbA hw.2.2 hi1 dL_law_996 ?_
  refine tx_ci hw (tx_runV S hE hw (c_X11_rest hc) lk_L_121 (q0 := 0) rfl rfl rfl hl.1 (rest := []) rfl (Nat.le_of_ble_eq_true rfl) ⟨by decide, by decide⟩ dL_law_997 hcs) (fun H locs hw => ?_)
  refine lv_aload_n hx hb dL_law_1000 rfl (lv_at hl 2 rfl) ?_
  refine lv_aload_n hx hb dL_law_1001 rfl (lv_at hl 0 rfl) ?_
  refine lv_iload hx hb dL_law_1002 (lv_at hl 4 rfl) ?_
  refine lv_iconst (v := 1) hx hb dL_law_1004 (by decide) ?_
  refine lv_iadd hx hb dL_law_1005 ?_
  refine va_sld hx hb hX hbl hbA hw.2.2 hi1 dL_law_1006 ?_
  have hw := hw.u19
  refine tx_ci hw (tx_runV S hE hw (c_X12_rest hm) lk_L_124 (q0 := 0) rfl rfl rfl hl.1 (rest := [.int r]) rfl (Nat.le_of_ble_eq_true rfl) ⟨by decide, by decide⟩ dL_law_1007 hcs) (fun H locs hw => ?_)
  refine lv_icmp_eq (tgt := 1567) hx hb dL_law_1010 (by decide) (fun _ => ?_) (fun h => absurd rfl h)
  have hw := hw.u19
  have hw := hw.u19
  have hw := hw.u19
  have hw := hw.u19
  have hw := hw.u19
  have hw := hw.u19
  have hw := hw.u19
  have hw := hw.u19
  have hw := hw.u19
  have hw := hw.u19
  have hw := hw.u19
  have hw := hw.u19
  have hw := hw.u19
  have hw := hw.u19
  have hw := hw.u19
  have hw := hw.u19
  have hw := hw.u19
  have hw := hw.u19
  have hw := hw.u19
  exact kk hw hl
set_option maxHeartbeats 4000000 in
set_option maxRecDepth 100000 in
theorem law_c23 {p : Program} {l : Launch} {e : Env} {s : State} {m : MethodId} {below : List Frame} {meth : Method} {c : Code} {H : Heap} {locs : List Loc} {cells slots : Nat} {Q : State → Prop} {g : GG} {A : Nat → Prop} {X : va_W} {fu : Nat} {b L qo : Nat} {xs : Nat → Int32} {x4 : Int32} {ls : Array Slot} {kc : Cond} {a_T a_W a_B a_G a_F a_D a_Y a_W3 a_N3 a_W2 a_N2 a_N a_Z a_R a_K a_B2 a_L2 a_L a_P a_M : Nat → Nat} {p_W2_0 p_W3_0 p_Z_4 p_R_8 : Nat} {u_T : S32} {u_W : S32} {u_B : S32} {u_G : S32} {u_F : S32} {u_D : S32} {u_Y : S32} {u_W3 : S32} {v_N3 : S64} {u_W2 : S32} {v_N2 : S64} {v_N : S64} {u_Z : S32} {u_R : S32} {u_K : S32} {u_B2 : S32} {u_L2 : S32} {v_L2 : S64} {u_L : S32} {v_L : S64} {u_P : S32} {u_M : S32} {v_M : S64} {r : Int32} {zu_M : S32} (S : CallFix p m c code 7 s #[Value.ref b] (kc :: allW) RL) (hE : EN g A s) (hX : va_X b L xs s s.heap) (hbl : b < s.heap.size) (hbA : ¬ A b) (hcs : cells ≤ room_1.cells ∧ slots ≤ room_1.slots) (hc : f_X11_first fu u_T u_B u_W = some r) (hm : f_X12_first fu v_M u_M = some (r, zu_M)) (hw : WD g A s.heap (cl_X11 g a_T (a_P 0) (a_B 0) (a_B2 0) (a_Z 0) (a_W 0) (a_W2 0) (a_Y 0) (a_D 0) (a_F 0) (a_G 0) u_T ++ (cl_X10 g a_W (a_B 0) (a_N 0) u_W ++ (cl_X0 g a_B (a_L 0) u_B ++ (cl_X3 g a_G u_G ++ (cl_X2 g a_F u_F ++ (cl_X1 g a_D u_D ++ (cl_X9 g a_Y (a_W3 0) u_Y ++ (cl_X10 g a_W3 p_W3_0 (a_N3 0) u_W3 ++ (cl_N g a_N3 v_N3 ++ (cl_X10 g a_W2 p_W2_0 (a_N2 0) u_W2 ++ (cl_N g a_N2 v_N2 ++ (cl_N g a_N v_N ++ (cl_X7 g a_Z (a_K 0) (a_R 0) p_Z_4 u_Z ++ (cl_X4 g a_R (a_K 0) p_R_8 u_R ++ (cl_X8 g a_K (a_P 0) u_K ++ (cl_X0 g a_B2 (a_L2 0) u_B2 ++ (cl_X5 g a_L2 u_L2 v_L2 ++ (cl_X5 g a_L u_L v_L ++ (cl_X6 g a_P u_P ++ (cl_X12 g a_M u_M v_M ++ X)))))))))))))))))))) H locs) (hl : lv_has ls 7 [(0, .ref b), (1, .ref (a_T 0)), (2, .ref (a_M 0)), (3, .ref qo), (4, .int x4)]) (kk : ∀ {H : Heap} {locs : List Loc}, WD g A s.heap (cl_X11 g a_T (a_P 0) (a_B 0) (a_B2 0) (a_Z 0) (a_W 0) (a_W2 0) (a_Y 0) (a_D 0) (a_F 0) (a_G 0) u_T ++ (cl_X10 g a_W (a_B 0) (a_N 0) u_W ++ (cl_X0 g a_B (a_L 0) u_B ++ (cl_X3 g a_G u_G ++ (cl_X2 g a_F u_F ++ (cl_X1 g a_D u_D ++ (cl_X9 g a_Y (a_W3 0) u_Y ++ (cl_X10 g a_W3 p_W3_0 (a_N3 0) u_W3 ++ (cl_N g a_N3 v_N3 ++ (cl_X10 g a_W2 p_W2_0 (a_N2 0) u_W2 ++ (cl_N g a_N2 v_N2 ++ (cl_N g a_N v_N ++ (cl_X7 g a_Z (a_K 0) (a_R 0) p_Z_4 u_Z ++ (cl_X4 g a_R (a_K 0) p_R_8 u_R ++ (cl_X8 g a_K (a_P 0) u_K ++ (cl_X0 g a_B2 (a_L2 0) u_B2 ++ (cl_X5 g a_L2 u_L2 v_L2 ++ (cl_X5 g a_L u_L v_L ++ (cl_X6 g a_P u_P ++ (cl_X12 g a_M zu_M v_M ++ X)))))))))))))))))))) H locs → lv_has ls 7 [(0, .ref b), (1, .ref (a_T 0)), (2, .ref (a_M 0)), (3, .ref qo), (4, .int x4)] → W p l e room_1 s m #[Value.ref b] below meth c H locs cells slots Q (F0 m 1567 ls [])) : W p l e room_1 s m #[Value.ref b] below meth c H locs cells slots Q (F0 m 1015 ls []) := by
  have hx := S.1
  have hb := S.2.1
  refine lv_aload_n hx hb dL_law_1015 rfl (lv_at hl 1 rfl) ?_
  have hw := hw.u1
  have hw := hw.u2
  have hw := hw.u2
  refine tx_ci hw (tx_runV S hE hw (c_X11_first hc) lk_L_125 (q0 := 0) rfl rfl rfl hl.1 (rest := []) rfl (Nat.le_of_ble_eq_true rfl) ⟨by decide, by decide⟩ dL_law_1016 hcs) (fun H locs hw => ?_)
  refine lv_aload_n hx hb dL_law_1019 rfl (lv_at hl 2 rfl) ?_
  have hw := hw.u19
  refine tx_ci hw (tx_runV S hE hw (c_X12_first hm) lk_L_128 (q0 := 0) rfl rfl rfl hl.1 (rest := [.int r]) rfl (Nat.le_of_ble_eq_true rfl) ⟨by decide, by decide⟩ dL_law_1020 hcs) (fun H locs hw => ?_)
  refine lv_icmp_eq (tgt := 1567) hx hb dL_law_1023 (by decide) (fun _ => ?_) (fun h => absurd rfl h)
  have hw := hw.u19
  have hw := hw.u19
  have hw := hw.u19
  have hw := hw.u19
  have hw := hw.u19
  have hw := hw.u19
  have hw := hw.u19
  have hw := hw.u19
  have hw := hw.u19
  have hw := hw.u19
  have hw := hw.u19
  have hw := hw.u19
  have hw := hw.u19
  have hw := hw.u19
  have hw := hw.u19
  have hw := hw.u19
  have hw := hw.u18
  have hw := hw.u19
  have hw := hw.u19
  exact kk hw hl
set_option maxHeartbeats 4000000 in
set_option maxRecDepth 100000 in
theorem law_c24 {p : Program} {l : Launch} {e : Env} {s : State} {m : MethodId} {below : List Frame} {meth : Method} {c : Code} {H : Heap} {locs : List Loc} {cells slots : Nat} {Q : State → Prop} {g : GG} {A : Nat → Prop} {X : va_W} {fu : Nat} {b L qo : Nat} {xs : Nat → Int32} {x4 : Int32} {ls : Array Slot} {kc : Cond} {a_T a_W a_B a_G a_F a_D a_Y a_W3 a_N3 a_W2 a_N2 a_N a_Z a_R a_K a_B2 a_L2 a_L a_P a_M : Nat → Nat} {p_W2_0 p_W3_0 p_Z_4 p_R_8 : Nat} {u_T : S32} {u_W : S32} {u_B : S32} {u_G : S32} {u_F : S32} {u_D : S32} {u_Y : S32} {u_W3 : S32} {v_N3 : S64} {u_W2 : S32} {v_N2 : S64} {v_N : S64} {u_Z : S32} {u_R : S32} {u_K : S32} {u_B2 : S32} {u_L2 : S32} {v_L2 : S64} {u_L : S32} {v_L : S64} {u_P : S32} {u_M : S32} {v_M : S64} {r : Int32} {zu_M : S32} (S : CallFix p m c code 7 s #[Value.ref b] (kc :: allW) RL) (hE : EN g A s) (hX : va_X b L xs s s.heap) (hbl : b < s.heap.size) (hbA : ¬ A b) (hcs : cells ≤ room_1.cells ∧ slots ≤ room_1.slots) (hi1 : vp_in (x4 + (1 : Int32)) L) (hc : f_X11_farthing fu (xs (x4 + (1 : Int32)).toNatClampNeg) = some r) (hm : f_X12_farthing fu v_M u_M (xs (x4 + (1 : Int32)).toNatClampNeg) = some (r, zu_M)) (hw : WD g A s.heap (cl_X11 g a_T (a_P 0) (a_B 0) (a_B2 0) (a_Z 0) (a_W 0) (a_W2 0) (a_Y 0) (a_D 0) (a_F 0) (a_G 0) u_T ++ (cl_X10 g a_W (a_B 0) (a_N 0) u_W ++ (cl_X0 g a_B (a_L 0) u_B ++ (cl_X3 g a_G u_G ++ (cl_X2 g a_F u_F ++ (cl_X1 g a_D u_D ++ (cl_X9 g a_Y (a_W3 0) u_Y ++ (cl_X10 g a_W3 p_W3_0 (a_N3 0) u_W3 ++ (cl_N g a_N3 v_N3 ++ (cl_X10 g a_W2 p_W2_0 (a_N2 0) u_W2 ++ (cl_N g a_N2 v_N2 ++ (cl_N g a_N v_N ++ (cl_X7 g a_Z (a_K 0) (a_R 0) p_Z_4 u_Z ++ (cl_X4 g a_R (a_K 0) p_R_8 u_R ++ (cl_X8 g a_K (a_P 0) u_K ++ (cl_X0 g a_B2 (a_L2 0) u_B2 ++ (cl_X5 g a_L2 u_L2 v_L2 ++ (cl_X5 g a_L u_L v_L ++ (cl_X6 g a_P u_P ++ (cl_X12 g a_M u_M v_M ++ X)))))))))))))))))))) H locs) (hl : lv_has ls 7 [(0, .ref b), (1, .ref (a_T 0)), (2, .ref (a_M 0)), (3, .ref qo), (4, .int x4)]) (kk : ∀ {H : Heap} {locs : List Loc}, WD g A s.heap (cl_X11 g a_T (a_P 0) (a_B 0) (a_B2 0) (a_Z 0) (a_W 0) (a_W2 0) (a_Y 0) (a_D 0) (a_F 0) (a_G 0) u_T ++ (cl_X10 g a_W (a_B 0) (a_N 0) u_W ++ (cl_X0 g a_B (a_L 0) u_B ++ (cl_X3 g a_G u_G ++ (cl_X2 g a_F u_F ++ (cl_X1 g a_D u_D ++ (cl_X9 g a_Y (a_W3 0) u_Y ++ (cl_X10 g a_W3 p_W3_0 (a_N3 0) u_W3 ++ (cl_N g a_N3 v_N3 ++ (cl_X10 g a_W2 p_W2_0 (a_N2 0) u_W2 ++ (cl_N g a_N2 v_N2 ++ (cl_N g a_N v_N ++ (cl_X7 g a_Z (a_K 0) (a_R 0) p_Z_4 u_Z ++ (cl_X4 g a_R (a_K 0) p_R_8 u_R ++ (cl_X8 g a_K (a_P 0) u_K ++ (cl_X0 g a_B2 (a_L2 0) u_B2 ++ (cl_X5 g a_L2 u_L2 v_L2 ++ (cl_X5 g a_L u_L v_L ++ (cl_X6 g a_P u_P ++ (cl_X12 g a_M zu_M v_M ++ X)))))))))))))))))))) H locs → lv_has ls 7 [(0, .ref b), (1, .ref (a_T 0)), (2, .ref (a_M 0)), (3, .ref qo), (4, .int x4)] → W p l e room_1 s m #[Value.ref b] below meth c H locs cells slots Q (F0 m 1567 ls [])) : W p l e room_1 s m #[Value.ref b] below meth c H locs cells slots Q (F0 m 1028 ls []) := by
  have hx := S.1
  have hb := S.2.1
  refine lv_aload_n hx hb dL_law_1028 rfl (lv_at hl 1 rfl) ?_
  refine lv_aload_n hx hb dL_law_1029 rfl (lv_at hl 0 rfl) ?_
  refine lv_iload hx hb dL_law_1030 (lv_at hl 4 rfl) ?_
  refine lv_iconst (v := 1) hx hb dL_law_1032 (by decide) ?_
  refine lv_iadd hx hb dL_law_1033 ?_
  refine va_sld hx hb hX hbl hbA hw.2.2 hi1 dL_law_1034 ?_
  refine tx_ci hw (tx_runV S hE hw (c_X11_farthing hc) lk_L_129 (q0 := 0) rfl rfl rfl hl.1 (rest := []) rfl (Nat.le_of_ble_eq_true rfl) ⟨by decide, by decide⟩ dL_law_1035 hcs) (fun H locs hw => ?_)
  refine lv_aload_n hx hb dL_law_1038 rfl (lv_at hl 2 rfl) ?_
  refine lv_aload_n hx hb dL_law_1039 rfl (lv_at hl 0 rfl) ?_
  refine lv_iload hx hb dL_law_1040 (lv_at hl 4 rfl) ?_
  refine lv_iconst (v := 1) hx hb dL_law_1042 (by decide) ?_
  refine lv_iadd hx hb dL_law_1043 ?_
  refine va_sld hx hb hX hbl hbA hw.2.2 hi1 dL_law_1044 ?_
  have hw := hw.u19
  refine tx_ci hw (tx_runV S hE hw (c_X12_farthing hm) lk_L_132 (q0 := 0) rfl rfl rfl hl.1 (rest := [.int r]) rfl (Nat.le_of_ble_eq_true rfl) ⟨by decide, by decide⟩ dL_law_1045 hcs) (fun H locs hw => ?_)
  refine lv_icmp_eq (tgt := 1567) hx hb dL_law_1048 (by decide) (fun _ => ?_) (fun h => absurd rfl h)
  have hw := hw.u19
  have hw := hw.u19
  have hw := hw.u19
  have hw := hw.u19
  have hw := hw.u19
  have hw := hw.u19
  have hw := hw.u19
  have hw := hw.u19
  have hw := hw.u19
  have hw := hw.u19
  have hw := hw.u19
  have hw := hw.u19
  have hw := hw.u19
  have hw := hw.u19
  have hw := hw.u19
  have hw := hw.u19
  have hw := hw.u19
  have hw := hw.u19
  have hw := hw.u19
  exact kk hw hl
set_option maxHeartbeats 4000000 in
set_option maxRecDepth 100000 in
theorem law_c25 {p : Program} {l : Launch} {e : Env} {s : State} {m : MethodId} {below : List Frame} {meth : Method} {c : Code} {H : Heap} {locs : List Loc} {cells slots : Nat} {Q : State → Prop} {g : GG} {A : Nat → Prop} {X : va_W} {fu : Nat} {b L qo : Nat} {xs : Nat → Int32} {x4 : Int32} {ls : Array Slot} {kc : Cond} {a_T a_W a_B a_G a_F a_D a_Y a_W3 a_N3 a_W2 a_N2 a_N a_Z a_R a_K a_B2 a_L2 a_L a_P a_M : Nat → Nat} {p_W2_0 p_W3_0 p_Z_4 p_R_8 : Nat} {u_T : S32} {u_W : S32} {u_B : S32} {u_G : S32} {u_F : S32} {u_D : S32} {u_Y : S32} {u_W3 : S32} {v_N3 : S64} {u_W2 : S32} {v_N2 : S64} {v_N : S64} {u_Z : S32} {u_R : S32} {u_K : S32} {u_B2 : S32} {u_L2 : S32} {v_L2 : S64} {u_L : S32} {v_L : S64} {u_P : S32} {u_M : S32} {v_M : S64} {r : Int32} {zu_W3 : S32} {zv_L : S64} {zv_N3 : S64} {zq_W3_0 : Nat} {zu_M : S32} {zv_M : S64} (S : CallFix p m c code 7 s #[Value.ref b] (kc :: allW) RL) (hE : EN g A s) (hX : va_X b L xs s s.heap) (hbl : b < s.heap.size) (hbA : ¬ A b) (hcs : cells ≤ room_1.cells ∧ slots ≤ room_1.slots) (hi1 : vp_in (x4 + (1 : Int32)) L) (hc : f_X11_enough fu u_T u_B u_Y u_W u_L p_W3_0 (a_B 0) u_W3 v_L v_N3 (xs (x4 + (1 : Int32)).toNatClampNeg) = some (r, zu_W3, zv_L, zv_N3, zq_W3_0)) (hm : f_X12_enough fu u_M v_M (xs (x4 + (1 : Int32)).toNatClampNeg) = some (r, zu_M, zv_M)) (hw : WD g A s.heap (cl_X11 g a_T (a_P 0) (a_B 0) (a_B2 0) (a_Z 0) (a_W 0) (a_W2 0) (a_Y 0) (a_D 0) (a_F 0) (a_G 0) u_T ++ (cl_X10 g a_W (a_B 0) (a_N 0) u_W ++ (cl_X0 g a_B (a_L 0) u_B ++ (cl_X3 g a_G u_G ++ (cl_X2 g a_F u_F ++ (cl_X1 g a_D u_D ++ (cl_X9 g a_Y (a_W3 0) u_Y ++ (cl_X10 g a_W3 p_W3_0 (a_N3 0) u_W3 ++ (cl_N g a_N3 v_N3 ++ (cl_X10 g a_W2 p_W2_0 (a_N2 0) u_W2 ++ (cl_N g a_N2 v_N2 ++ (cl_N g a_N v_N ++ (cl_X7 g a_Z (a_K 0) (a_R 0) p_Z_4 u_Z ++ (cl_X4 g a_R (a_K 0) p_R_8 u_R ++ (cl_X8 g a_K (a_P 0) u_K ++ (cl_X0 g a_B2 (a_L2 0) u_B2 ++ (cl_X5 g a_L2 u_L2 v_L2 ++ (cl_X5 g a_L u_L v_L ++ (cl_X6 g a_P u_P ++ (cl_X12 g a_M u_M v_M ++ X)))))))))))))))))))) H locs) (hl : lv_has ls 7 [(0, .ref b), (1, .ref (a_T 0)), (2, .ref (a_M 0)), (3, .ref qo), (4, .int x4)]) (kk : ∀ {H : Heap} {locs : List Loc}, WD g A s.heap (cl_X11 g a_T (a_P 0) (a_B 0) (a_B2 0) (a_Z 0) (a_W 0) (a_W2 0) (a_Y 0) (a_D 0) (a_F 0) (a_G 0) u_T ++ (cl_X10 g a_W (a_B 0) (a_N 0) u_W ++ (cl_X0 g a_B (a_L 0) u_B ++ (cl_X3 g a_G u_G ++ (cl_X2 g a_F u_F ++ (cl_X1 g a_D u_D ++ (cl_X9 g a_Y (a_W3 0) u_Y ++ (cl_X10 g a_W3 zq_W3_0 (a_N3 0) zu_W3 ++ (cl_N g a_N3 zv_N3 ++ (cl_X10 g a_W2 p_W2_0 (a_N2 0) u_W2 ++ (cl_N g a_N2 v_N2 ++ (cl_N g a_N v_N ++ (cl_X7 g a_Z (a_K 0) (a_R 0) p_Z_4 u_Z ++ (cl_X4 g a_R (a_K 0) p_R_8 u_R ++ (cl_X8 g a_K (a_P 0) u_K ++ (cl_X0 g a_B2 (a_L2 0) u_B2 ++ (cl_X5 g a_L2 u_L2 v_L2 ++ (cl_X5 g a_L u_L zv_L ++ (cl_X6 g a_P u_P ++ (cl_X12 g a_M zu_M zv_M ++ X)))))))))))))))))))) H locs → lv_has ls 7 [(0, .ref b), (1, .ref (a_T 0)), (2, .ref (a_M 0)), (3, .ref qo), (4, .int x4)] → W p l e room_1 s m #[Value.ref b] below meth c H locs cells slots Q (F0 m 1567 ls [])) : W p l e room_1 s m #[Value.ref b] below meth c H locs cells slots Q (F0 m 1053 ls []) := by
  have hx := S.1
  have hb := S.2.1
  refine lv_aload_n hx hb dL_law_1053 rfl (lv_at hl 1 rfl) ?_
  refine lv_aload_n hx hb dL_law_1054 rfl (lv_at hl 0 rfl) ?_
  refine lv_iload hx hb dL_law_1055 (lv_at hl 4 rfl) ?_
  refine lv_iconst (v := 1) hx hb dL_law_1057 (by decide) ?_
  refine lv_iadd hx hb dL_law_1058 ?_
  refine va_sld hx hb hX hbl hbA hw.2.2 hi1 dL_law_1059 ?_
  have hw := hw.u8
  have hw := hw.u17
  have hw := hw.u9
  have hw := hw.u4
  have hw := hw.u9
  have hw := hw.u6
  have hw := hw.u6
  refine tx_ci hw (tx_runV S hE hw (c_X11_enough hc) lk_L_133 (q0 := 0) rfl rfl rfl hl.1 (rest := []) rfl (Nat.le_of_ble_eq_true rfl) ⟨by decide, by decide⟩ dL_law_1060 hcs) (fun H locs hw => ?_)
  refine lv_aload_n hx hb dL_law_1063 rfl (lv_at hl 2 rfl) ?_
  refine lv_aload_n hx hb dL_law_1064 rfl (lv_at hl 0 rfl) ?_
  refine lv_iload hx hb dL_law_1065 (lv_at hl 4 rfl) ?_
  refine lv_iconst (v := 1) hx hb dL_law_1067 (by decide) ?_
  refine lv_iadd hx hb dL_law_1068 ?_
  refine va_sld hx hb hX hbl hbA hw.2.2 hi1 dL_law_1069 ?_
  have hw := hw.u19
  refine tx_ci hw (tx_runV S hE hw (c_X12_enough hm) lk_L_136 (q0 := 0) rfl rfl rfl hl.1 (rest := [.int r]) rfl (Nat.le_of_ble_eq_true rfl) ⟨by decide, by decide⟩ dL_law_1070 hcs) (fun H locs hw => ?_)
  refine lv_icmp_eq (tgt := 1567) hx hb dL_law_1073 (by decide) (fun _ => ?_) (fun h => absurd rfl h)
  have hw := hw.u19
  have hw := hw.u7
  have hw := hw.u19
  have hw := hw.u19
  have hw := hw.u19
  have hw := hw.u19
  have hw := hw.u19
  have hw := hw.u19
  have hw := hw.u19
  have hw := hw.u19
  have hw := hw.u16
  have hw := hw.u16
  have hw := hw.u15
  have hw := hw.u19
  have hw := hw.u19
  have hw := hw.u19
  have hw := hw.u18
  have hw := hw.u19
  have hw := hw.u19
  exact kk hw hl
set_option maxHeartbeats 4000000 in
set_option maxRecDepth 100000 in
theorem law_c26 {p : Program} {l : Launch} {e : Env} {s : State} {m : MethodId} {below : List Frame} {meth : Method} {c : Code} {H : Heap} {locs : List Loc} {cells slots : Nat} {Q : State → Prop} {g : GG} {A : Nat → Prop} {X : va_W} {fu : Nat} {b L qo : Nat} {xs : Nat → Int32} {x4 : Int32} {ls : Array Slot} {kc : Cond} {a_T a_W a_B a_G a_F a_D a_Y a_W3 a_N3 a_W2 a_N2 a_N a_Z a_R a_K a_B2 a_L2 a_L a_P a_M : Nat → Nat} {p_W2_0 p_W3_0 p_Z_4 p_R_8 : Nat} {u_T : S32} {u_W : S32} {u_B : S32} {u_G : S32} {u_F : S32} {u_D : S32} {u_Y : S32} {u_W3 : S32} {v_N3 : S64} {u_W2 : S32} {v_N2 : S64} {v_N : S64} {u_Z : S32} {u_R : S32} {u_K : S32} {u_B2 : S32} {u_L2 : S32} {v_L2 : S64} {u_L : S32} {v_L : S64} {u_P : S32} {u_M : S32} {v_M : S64} {r : Int32} {zu_Y : S32} {zu_W3 : S32} {zv_L : S64} {zv_N3 : S64} {zq_W3_0 : Nat} {zu_M : S32} {zv_M : S64} (S : CallFix p m c code 7 s #[Value.ref b] (kc :: allW) RL) (hE : EN g A s) (hX : va_X b L xs s s.heap) (hbl : b < s.heap.size) (hbA : ¬ A b) (hcs : cells ≤ room_1.cells ∧ slots ≤ room_1.slots) (hi1 : vp_in (x4 + (1 : Int32)) L) (hi2 : vp_in (x4 + (2 : Int32)) L) (hi3 : vp_in (x4 + (3 : Int32)) L) (hc : f_X11_vote fu u_T u_W u_B u_L p_W3_0 (a_B 0) u_Y u_W3 v_L v_N3 (xs (x4 + (1 : Int32)).toNatClampNeg) (xs (x4 + (2 : Int32)).toNatClampNeg) (xs (x4 + (3 : Int32)).toNatClampNeg) = some (r, zu_Y, zu_W3, zv_L, zv_N3, zq_W3_0)) (hm : f_X12_vote fu u_M v_M (xs (x4 + (1 : Int32)).toNatClampNeg) (xs (x4 + (2 : Int32)).toNatClampNeg) (xs (x4 + (3 : Int32)).toNatClampNeg) = some (r, zu_M, zv_M)) (hw : WD g A s.heap (cl_X11 g a_T (a_P 0) (a_B 0) (a_B2 0) (a_Z 0) (a_W 0) (a_W2 0) (a_Y 0) (a_D 0) (a_F 0) (a_G 0) u_T ++ (cl_X10 g a_W (a_B 0) (a_N 0) u_W ++ (cl_X0 g a_B (a_L 0) u_B ++ (cl_X3 g a_G u_G ++ (cl_X2 g a_F u_F ++ (cl_X1 g a_D u_D ++ (cl_X9 g a_Y (a_W3 0) u_Y ++ (cl_X10 g a_W3 p_W3_0 (a_N3 0) u_W3 ++ (cl_N g a_N3 v_N3 ++ (cl_X10 g a_W2 p_W2_0 (a_N2 0) u_W2 ++ (cl_N g a_N2 v_N2 ++ (cl_N g a_N v_N ++ (cl_X7 g a_Z (a_K 0) (a_R 0) p_Z_4 u_Z ++ (cl_X4 g a_R (a_K 0) p_R_8 u_R ++ (cl_X8 g a_K (a_P 0) u_K ++ (cl_X0 g a_B2 (a_L2 0) u_B2 ++ (cl_X5 g a_L2 u_L2 v_L2 ++ (cl_X5 g a_L u_L v_L ++ (cl_X6 g a_P u_P ++ (cl_X12 g a_M u_M v_M ++ X)))))))))))))))))))) H locs) (hl : lv_has ls 7 [(0, .ref b), (1, .ref (a_T 0)), (2, .ref (a_M 0)), (3, .ref qo), (4, .int x4)]) (kk : ∀ {H : Heap} {locs : List Loc}, WD g A s.heap (cl_X11 g a_T (a_P 0) (a_B 0) (a_B2 0) (a_Z 0) (a_W 0) (a_W2 0) (a_Y 0) (a_D 0) (a_F 0) (a_G 0) u_T ++ (cl_X10 g a_W (a_B 0) (a_N 0) u_W ++ (cl_X0 g a_B (a_L 0) u_B ++ (cl_X3 g a_G u_G ++ (cl_X2 g a_F u_F ++ (cl_X1 g a_D u_D ++ (cl_X9 g a_Y (a_W3 0) zu_Y ++ (cl_X10 g a_W3 zq_W3_0 (a_N3 0) zu_W3 ++ (cl_N g a_N3 zv_N3 ++ (cl_X10 g a_W2 p_W2_0 (a_N2 0) u_W2 ++ (cl_N g a_N2 v_N2 ++ (cl_N g a_N v_N ++ (cl_X7 g a_Z (a_K 0) (a_R 0) p_Z_4 u_Z ++ (cl_X4 g a_R (a_K 0) p_R_8 u_R ++ (cl_X8 g a_K (a_P 0) u_K ++ (cl_X0 g a_B2 (a_L2 0) u_B2 ++ (cl_X5 g a_L2 u_L2 v_L2 ++ (cl_X5 g a_L u_L zv_L ++ (cl_X6 g a_P u_P ++ (cl_X12 g a_M zu_M zv_M ++ X)))))))))))))))))))) H locs → lv_has ls 7 [(0, .ref b), (1, .ref (a_T 0)), (2, .ref (a_M 0)), (3, .ref qo), (4, .int x4)] → W p l e room_1 s m #[Value.ref b] below meth c H locs cells slots Q (F0 m 1567 ls [])) : W p l e room_1 s m #[Value.ref b] below meth c H locs cells slots Q (F0 m 1078 ls []) := by
  have hx := S.1
  have hb := S.2.1
  refine lv_aload_n hx hb dL_law_1078 rfl (lv_at hl 1 rfl) ?_
  refine lv_aload_n hx hb dL_law_1079 rfl (lv_at hl 0 rfl) ?_
  refine lv_iload hx hb dL_law_1080 (lv_at hl 4 rfl) ?_
  refine lv_iconst (v := 1) hx hb dL_law_1082 (by decide) ?_
  refine lv_iadd hx hb dL_law_1083 ?_
  refine va_sld hx hb hX hbl hbA hw.2.2 hi1 dL_law_1084 ?_
  refine lv_aload_n hx hb dL_law_1085 rfl (lv_at hl 0 rfl) ?_
  refine lv_iload hx hb dL_law_1086 (lv_at hl 4 rfl) ?_
  refine lv_iconst (v := 2) hx hb dL_law_1088 (by decide) ?_
  refine lv_iadd hx hb dL_law_1089 ?_
  refine va_sld hx hb hX hbl hbA hw.2.2 hi2 dL_law_1090 ?_
  refine lv_aload_n hx hb dL_law_1091 rfl (lv_at hl 0 rfl) ?_
  refine lv_iload hx hb dL_law_1092 (lv_at hl 4 rfl) ?_
  refine lv_iconst (v := 3) hx hb dL_law_1094 (by decide) ?_
  refine lv_iadd hx hb dL_law_1095 ?_
  refine va_sld hx hb hX hbl hbA hw.2.2 hi3 dL_law_1096 ?_
  have hw := hw.u8
  have hw := hw.u17
  have hw := hw.u4
  have hw := hw.u9
  have hw := hw.u5
  have hw := hw.u9
  have hw := hw.u6
  refine tx_ci hw (tx_runV S hE hw (c_X11_vote hc) lk_L_137 (q0 := 0) rfl rfl rfl hl.1 (rest := []) rfl (Nat.le_of_ble_eq_true rfl) ⟨by decide, by decide⟩ dL_law_1097 hcs) (fun H locs hw => ?_)
  refine lv_aload_n hx hb dL_law_1100 rfl (lv_at hl 2 rfl) ?_
  refine lv_aload_n hx hb dL_law_1101 rfl (lv_at hl 0 rfl) ?_
  refine lv_iload hx hb dL_law_1102 (lv_at hl 4 rfl) ?_
  refine lv_iconst (v := 1) hx hb dL_law_1104 (by decide) ?_
  refine lv_iadd hx hb dL_law_1105 ?_
  refine va_sld hx hb hX hbl hbA hw.2.2 hi1 dL_law_1106 ?_
  refine lv_aload_n hx hb dL_law_1107 rfl (lv_at hl 0 rfl) ?_
  refine lv_iload hx hb dL_law_1108 (lv_at hl 4 rfl) ?_
  refine lv_iconst (v := 2) hx hb dL_law_1110 (by decide) ?_
  refine lv_iadd hx hb dL_law_1111 ?_
  refine va_sld hx hb hX hbl hbA hw.2.2 hi2 dL_law_1112 ?_
  refine lv_aload_n hx hb dL_law_1113 rfl (lv_at hl 0 rfl) ?_
  refine lv_iload hx hb dL_law_1114 (lv_at hl 4 rfl) ?_
  refine lv_iconst (v := 3) hx hb dL_law_1116 (by decide) ?_
  refine lv_iadd hx hb dL_law_1117 ?_
  refine va_sld hx hb hX hbl hbA hw.2.2 hi3 dL_law_1118 ?_
  have hw := hw.u19
  refine tx_ci hw (tx_runV S hE hw (c_X12_vote hm) lk_L_140 (q0 := 0) rfl rfl rfl hl.1 (rest := [.int r]) rfl (Nat.le_of_ble_eq_true rfl) ⟨by decide, by decide⟩ dL_law_1119 hcs) (fun H locs hw => ?_)
  refine lv_icmp_eq (tgt := 1567) hx hb dL_law_1122 (by decide) (fun _ => ?_) (fun h => absurd rfl h)
  have hw := hw.u19
  have hw := hw.u7
  have hw := hw.u19
  have hw := hw.u19
  have hw := hw.u19
  have hw := hw.u19
  have hw := hw.u19
  have hw := hw.u19
  have hw := hw.u19
  have hw := hw.u19
  have hw := hw.u16
  have hw := hw.u15
  have hw := hw.u14
  have hw := hw.u19
  have hw := hw.u19
  have hw := hw.u19
  have hw := hw.u19
  have hw := hw.u19
  have hw := hw.u19
  exact kk hw hl
set_option maxHeartbeats 4000000 in
set_option maxRecDepth 100000 in
theorem law_c27 {p : Program} {l : Launch} {e : Env} {s : State} {m : MethodId} {below : List Frame} {meth : Method} {c : Code} {H : Heap} {locs : List Loc} {cells slots : Nat} {Q : State → Prop} {g : GG} {A : Nat → Prop} {X : va_W} {fu : Nat} {b L qo : Nat} {xs : Nat → Int32} {x4 : Int32} {ls : Array Slot} {kc : Cond} {a_T a_W a_B a_G a_F a_D a_Y a_W3 a_N3 a_W2 a_N2 a_N a_Z a_R a_K a_B2 a_L2 a_L a_P a_M : Nat → Nat} {p_W2_0 p_W3_0 p_Z_4 p_R_8 : Nat} {u_T : S32} {u_W : S32} {u_B : S32} {u_G : S32} {u_F : S32} {u_D : S32} {u_Y : S32} {u_W3 : S32} {v_N3 : S64} {u_W2 : S32} {v_N2 : S64} {v_N : S64} {u_Z : S32} {u_R : S32} {u_K : S32} {u_B2 : S32} {u_L2 : S32} {v_L2 : S64} {u_L : S32} {v_L : S64} {u_P : S32} {u_M : S32} {v_M : S64} {r : Int32} {zu_M : S32} (S : CallFix p m c code 7 s #[Value.ref b] (kc :: allW) RL) (hE : EN g A s) (hX : va_X b L xs s s.heap) (hbl : b < s.heap.size) (hbA : ¬ A b) (hcs : cells ≤ room_1.cells ∧ slots ≤ room_1.slots) (hi1 : vp_in (x4 + (1 : Int32)) L) (hi2 : vp_in (x4 + (2 : Int32)) L) (hc : f_X11_whose fu u_T u_W u_B (xs (x4 + (1 : Int32)).toNatClampNeg) (xs (x4 + (2 : Int32)).toNatClampNeg) = some r) (hm : f_X12_whose fu v_M u_M (xs (x4 + (1 : Int32)).toNatClampNeg) (xs (x4 + (2 : Int32)).toNatClampNeg) = some (r, zu_M)) (hw : WD g A s.heap (cl_X11 g a_T (a_P 0) (a_B 0) (a_B2 0) (a_Z 0) (a_W 0) (a_W2 0) (a_Y 0) (a_D 0) (a_F 0) (a_G 0) u_T ++ (cl_X10 g a_W (a_B 0) (a_N 0) u_W ++ (cl_X0 g a_B (a_L 0) u_B ++ (cl_X3 g a_G u_G ++ (cl_X2 g a_F u_F ++ (cl_X1 g a_D u_D ++ (cl_X9 g a_Y (a_W3 0) u_Y ++ (cl_X10 g a_W3 p_W3_0 (a_N3 0) u_W3 ++ (cl_N g a_N3 v_N3 ++ (cl_X10 g a_W2 p_W2_0 (a_N2 0) u_W2 ++ (cl_N g a_N2 v_N2 ++ (cl_N g a_N v_N ++ (cl_X7 g a_Z (a_K 0) (a_R 0) p_Z_4 u_Z ++ (cl_X4 g a_R (a_K 0) p_R_8 u_R ++ (cl_X8 g a_K (a_P 0) u_K ++ (cl_X0 g a_B2 (a_L2 0) u_B2 ++ (cl_X5 g a_L2 u_L2 v_L2 ++ (cl_X5 g a_L u_L v_L ++ (cl_X6 g a_P u_P ++ (cl_X12 g a_M u_M v_M ++ X)))))))))))))))))))) H locs) (hl : lv_has ls 7 [(0, .ref b), (1, .ref (a_T 0)), (2, .ref (a_M 0)), (3, .ref qo), (4, .int x4)]) (kk : ∀ {H : Heap} {locs : List Loc}, WD g A s.heap (cl_X11 g a_T (a_P 0) (a_B 0) (a_B2 0) (a_Z 0) (a_W 0) (a_W2 0) (a_Y 0) (a_D 0) (a_F 0) (a_G 0) u_T ++ (cl_X10 g a_W (a_B 0) (a_N 0) u_W ++ (cl_X0 g a_B (a_L 0) u_B ++ (cl_X3 g a_G u_G ++ (cl_X2 g a_F u_F ++ (cl_X1 g a_D u_D ++ (cl_X9 g a_Y (a_W3 0) u_Y ++ (cl_X10 g a_W3 p_W3_0 (a_N3 0) u_W3 ++ (cl_N g a_N3 v_N3 ++ (cl_X10 g a_W2 p_W2_0 (a_N2 0) u_W2 ++ (cl_N g a_N2 v_N2 ++ (cl_N g a_N v_N ++ (cl_X7 g a_Z (a_K 0) (a_R 0) p_Z_4 u_Z ++ (cl_X4 g a_R (a_K 0) p_R_8 u_R ++ (cl_X8 g a_K (a_P 0) u_K ++ (cl_X0 g a_B2 (a_L2 0) u_B2 ++ (cl_X5 g a_L2 u_L2 v_L2 ++ (cl_X5 g a_L u_L v_L ++ (cl_X6 g a_P u_P ++ (cl_X12 g a_M zu_M v_M ++ X)))))))))))))))))))) H locs → lv_has ls 7 [(0, .ref b), (1, .ref (a_T 0)), (2, .ref (a_M 0)), (3, .ref qo), (4, .int x4)] → W p l e room_1 s m #[Value.ref b] below meth c H locs cells slots Q (F0 m 1567 ls [])) : W p l e room_1 s m #[Value.ref b] below meth c H locs cells slots Q (F0 m 1127 ls []) := by
  have hx := S.1
  have hb := S.2.1
  refine lv_aload_n hx hb dL_law_1127 rfl (lv_at hl 1 rfl) ?_
  refine lv_aload_n hx hb dL_law_1128 rfl (lv_at hl 0 rfl) ?_
  refine lv_iload hx hb dL_law_1129 (lv_at hl 4 rfl) ?_
  refine lv_iconst (v := 1) hx hb dL_law_1131 (by decide) ?_
  refine lv_iadd hx hb dL_law_1132 ?_
  refine va_sld hx hb hX hbl hbA hw.2.2 hi1 dL_law_1133 ?_
  refine lv_aload_n hx hb dL_law_1134 rfl (lv_at hl 0 rfl) ?_
  refine lv_iload hx hb dL_law_1135 (lv_at hl 4 rfl) ?_
  refine lv_iconst (v := 2) hx hb dL_law_1137 (by decide) ?_
  refine lv_iadd hx hb dL_law_1138 ?_
  refine va_sld hx hb hX hbl hbA hw.2.2 hi2 dL_law_1139 ?_
  refine tx_ci hw (tx_runV S hE hw (c_X11_whose hc) lk_L_141 (q0 := 0) rfl rfl rfl hl.1 (rest := []) rfl (Nat.le_of_ble_eq_true rfl) ⟨by decide, by decide⟩ dL_law_1140 hcs) (fun H locs hw => ?_)
  refine lv_aload_n hx hb dL_law_1143 rfl (lv_at hl 2 rfl) ?_
  refine lv_aload_n hx hb dL_law_1144 rfl (lv_at hl 0 rfl) ?_
  refine lv_iload hx hb dL_law_1145 (lv_at hl 4 rfl) ?_
  refine lv_iconst (v := 1) hx hb dL_law_1147 (by decide) ?_
  refine lv_iadd hx hb dL_law_1148 ?_
  refine va_sld hx hb hX hbl hbA hw.2.2 hi1 dL_law_1149 ?_
  refine lv_aload_n hx hb dL_law_1150 rfl (lv_at hl 0 rfl) ?_
  refine lv_iload hx hb dL_law_1151 (lv_at hl 4 rfl) ?_
  refine lv_iconst (v := 2) hx hb dL_law_1153 (by decide) ?_
  refine lv_iadd hx hb dL_law_1154 ?_
  refine va_sld hx hb hX hbl hbA hw.2.2 hi2 dL_law_1155 ?_
  have hw := hw.u19
  refine tx_ci hw (tx_runV S hE hw (c_X12_whose hm) lk_L_144 (q0 := 0) rfl rfl rfl hl.1 (rest := [.int r]) rfl (Nat.le_of_ble_eq_true rfl) ⟨by decide, by decide⟩ dL_law_1156 hcs) (fun H locs hw => ?_)
  refine lv_icmp_eq (tgt := 1567) hx hb dL_law_1159 (by decide) (fun _ => ?_) (fun h => absurd rfl h)
  have hw := hw.u19
  have hw := hw.u19
  have hw := hw.u19
  have hw := hw.u19
  have hw := hw.u19
  have hw := hw.u19
  have hw := hw.u19
  have hw := hw.u19
  have hw := hw.u19
  have hw := hw.u19
  have hw := hw.u19
  have hw := hw.u19
  have hw := hw.u19
  have hw := hw.u19
  have hw := hw.u19
  have hw := hw.u19
  have hw := hw.u19
  have hw := hw.u19
  have hw := hw.u19
  exact kk hw hl
set_option maxHeartbeats 4000000 in
set_option maxRecDepth 100000 in
theorem law_c28 {p : Program} {l : Launch} {e : Env} {s : State} {m : MethodId} {below : List Frame} {meth : Method} {c : Code} {H : Heap} {locs : List Loc} {cells slots : Nat} {Q : State → Prop} {g : GG} {A : Nat → Prop} {X : va_W} {fu : Nat} {b L qo : Nat} {xs : Nat → Int32} {x4 : Int32} {ls : Array Slot} {kc : Cond} {a_T a_W a_B a_G a_F a_D a_Y a_W3 a_N3 a_W2 a_N2 a_N a_Z a_R a_K a_B2 a_L2 a_L a_P a_M : Nat → Nat} {p_W2_0 p_W3_0 p_Z_4 p_R_8 : Nat} {u_T : S32} {u_W : S32} {u_B : S32} {u_G : S32} {u_F : S32} {u_D : S32} {u_Y : S32} {u_W3 : S32} {v_N3 : S64} {u_W2 : S32} {v_N2 : S64} {v_N : S64} {u_Z : S32} {u_R : S32} {u_K : S32} {u_B2 : S32} {u_L2 : S32} {v_L2 : S64} {u_L : S32} {v_L : S64} {u_P : S32} {u_M : S32} {v_M : S64} {r : Int32} {zu_M : S32} (S : CallFix p m c code 7 s #[Value.ref b] (kc :: allW) RL) (hE : EN g A s) (hX : va_X b L xs s s.heap) (hbl : b < s.heap.size) (hbA : ¬ A b) (hcs : cells ≤ room_1.cells ∧ slots ≤ room_1.slots) (hc : f_X11_debtor fu u_T u_W u_B = some r) (hm : f_X12_debtor fu v_M u_M = some (r, zu_M)) (hw : WD g A s.heap (cl_X11 g a_T (a_P 0) (a_B 0) (a_B2 0) (a_Z 0) (a_W 0) (a_W2 0) (a_Y 0) (a_D 0) (a_F 0) (a_G 0) u_T ++ (cl_X10 g a_W (a_B 0) (a_N 0) u_W ++ (cl_X0 g a_B (a_L 0) u_B ++ (cl_X3 g a_G u_G ++ (cl_X2 g a_F u_F ++ (cl_X1 g a_D u_D ++ (cl_X9 g a_Y (a_W3 0) u_Y ++ (cl_X10 g a_W3 p_W3_0 (a_N3 0) u_W3 ++ (cl_N g a_N3 v_N3 ++ (cl_X10 g a_W2 p_W2_0 (a_N2 0) u_W2 ++ (cl_N g a_N2 v_N2 ++ (cl_N g a_N v_N ++ (cl_X7 g a_Z (a_K 0) (a_R 0) p_Z_4 u_Z ++ (cl_X4 g a_R (a_K 0) p_R_8 u_R ++ (cl_X8 g a_K (a_P 0) u_K ++ (cl_X0 g a_B2 (a_L2 0) u_B2 ++ (cl_X5 g a_L2 u_L2 v_L2 ++ (cl_X5 g a_L u_L v_L ++ (cl_X6 g a_P u_P ++ (cl_X12 g a_M u_M v_M ++ X)))))))))))))))))))) H locs) (hl : lv_has ls 7 [(0, .ref b), (1, .ref (a_T 0)), (2, .ref (a_M 0)), (3, .ref qo), (4, .int x4)]) (kk : ∀ {H : Heap} {locs : List Loc}, WD g A s.heap (cl_X11 g a_T (a_P 0) (a_B 0) (a_B2 0) (a_Z 0) (a_W 0) (a_W2 0) (a_Y 0) (a_D 0) (a_F 0) (a_G 0) u_T ++ (cl_X10 g a_W (a_B 0) (a_N 0) u_W ++ (cl_X0 g a_B (a_L 0) u_B ++ (cl_X3 g a_G u_G ++ (cl_X2 g a_F u_F ++ (cl_X1 g a_D u_D ++ (cl_X9 g a_Y (a_W3 0) u_Y ++ (cl_X10 g a_W3 p_W3_0 (a_N3 0) u_W3 ++ (cl_N g a_N3 v_N3 ++ (cl_X10 g a_W2 p_W2_0 (a_N2 0) u_W2 ++ (cl_N g a_N2 v_N2 ++ (cl_N g a_N v_N ++ (cl_X7 g a_Z (a_K 0) (a_R 0) p_Z_4 u_Z ++ (cl_X4 g a_R (a_K 0) p_R_8 u_R ++ (cl_X8 g a_K (a_P 0) u_K ++ (cl_X0 g a_B2 (a_L2 0) u_B2 ++ (cl_X5 g a_L2 u_L2 v_L2 ++ (cl_X5 g a_L u_L v_L ++ (cl_X6 g a_P u_P ++ (cl_X12 g a_M zu_M v_M ++ X)))))))))))))))))))) H locs → lv_has ls 7 [(0, .ref b), (1, .ref (a_T 0)), (2, .ref (a_M 0)), (3, .ref qo), (4, .int x4)] → W p l e room_1 s m #[Value.ref b] below meth c H locs cells slots Q (F0 m 1567 ls [])) : W p l e room_1 s m #[Value.ref b] below meth c H locs cells slots Q (F0 m 1164 ls []) := by
  have hx := S.1
  have hb := S.2.1
  refine lv_aload_n hx hb dL_law_1164 rfl (lv_at hl 1 rfl) ?_
  refine tx_ci hw (tx_runV S hE hw (c_X11_debtor hc) lk_L_145 (q0 := 0) rfl rfl rfl hl.1 (rest := []) rfl (Nat.le_of_ble_eq_true rfl) ⟨by decide, by decide⟩ dL_law_1165 hcs) (fun H locs hw => ?_)
  refine lv_aload_n hx hb dL_law_1168 rfl (lv_at hl 2 rfl) ?_
  have hw := hw.u19
  refine tx_ci hw (tx_runV S hE hw (c_X12_debtor hm) lk_L_148 (q0 := 0) rfl rfl rfl hl.1 (rest := [.int r]) rfl (Nat.le_of_ble_eq_true rfl) ⟨by decide, by decide⟩ dL_law_1169 hcs) (fun H locs hw => ?_)
  refine lv_icmp_eq (tgt := 1567) hx hb dL_law_1172 (by decide) (fun _ => ?_) (fun h => absurd rfl h)
  have hw := hw.u19
  have hw := hw.u19
  have hw := hw.u19
  have hw := hw.u19
  have hw := hw.u19
  have hw := hw.u19
  have hw := hw.u19
  have hw := hw.u19
  have hw := hw.u19
  have hw := hw.u19
  have hw := hw.u19
  have hw := hw.u19
  have hw := hw.u19
  have hw := hw.u19
  have hw := hw.u19
  have hw := hw.u19
  have hw := hw.u19
  have hw := hw.u19
  have hw := hw.u19
  exact kk hw hl
set_option maxHeartbeats 4000000 in
set_option maxRecDepth 100000 in
theorem law_c29 {p : Program} {l : Launch} {e : Env} {s : State} {m : MethodId} {below : List Frame} {meth : Method} {c : Code} {H : Heap} {locs : List Loc} {cells slots : Nat} {Q : State → Prop} {g : GG} {A : Nat → Prop} {X : va_W} {fu : Nat} {b L qo : Nat} {xs : Nat → Int32} {x4 : Int32} {ls : Array Slot} {kc : Cond} {a_T a_W a_B a_G a_F a_D a_Y a_W3 a_N3 a_W2 a_N2 a_N a_Z a_R a_K a_B2 a_L2 a_L a_P a_M : Nat → Nat} {p_W2_0 p_W3_0 p_Z_4 p_R_8 : Nat} {u_T : S32} {u_W : S32} {u_B : S32} {u_G : S32} {u_F : S32} {u_D : S32} {u_Y : S32} {u_W3 : S32} {v_N3 : S64} {u_W2 : S32} {v_N2 : S64} {v_N : S64} {u_Z : S32} {u_R : S32} {u_K : S32} {u_B2 : S32} {u_L2 : S32} {v_L2 : S64} {u_L : S32} {v_L : S64} {u_P : S32} {u_M : S32} {v_M : S64} {r : Int32} {zu_W3 : S32} {zv_L : S64} {zv_N3 : S64} {zq_W3_0 : Nat} {zu_M : S32} {zv_M : S64} (S : CallFix p m c code 7 s #[Value.ref b] (kc :: allW) RL) (hE : EN g A s) (hX : va_X b L xs s s.heap) (hbl : b < s.heap.size) (hbA : ¬ A b) (hcs : cells ≤ room_1.cells ∧ slots ≤ room_1.slots) (hi1 : vp_in (x4 + (1 : Int32)) L) (hc : f_X11_nextRead fu u_T u_B u_Y u_W u_L p_W3_0 (a_B 0) u_W3 v_L v_N3 (xs (x4 + (1 : Int32)).toNatClampNeg) = some (r, zu_W3, zv_L, zv_N3, zq_W3_0)) (hm : f_X12_nextRead fu u_M v_M (xs (x4 + (1 : Int32)).toNatClampNeg) = some (r, zu_M, zv_M)) (hw : WD g A s.heap (cl_X11 g a_T (a_P 0) (a_B 0) (a_B2 0) (a_Z 0) (a_W 0) (a_W2 0) (a_Y 0) (a_D 0) (a_F 0) (a_G 0) u_T ++ (cl_X10 g a_W (a_B 0) (a_N 0) u_W ++ (cl_X0 g a_B (a_L 0) u_B ++ (cl_X3 g a_G u_G ++ (cl_X2 g a_F u_F ++ (cl_X1 g a_D u_D ++ (cl_X9 g a_Y (a_W3 0) u_Y ++ (cl_X10 g a_W3 p_W3_0 (a_N3 0) u_W3 ++ (cl_N g a_N3 v_N3 ++ (cl_X10 g a_W2 p_W2_0 (a_N2 0) u_W2 ++ (cl_N g a_N2 v_N2 ++ (cl_N g a_N v_N ++ (cl_X7 g a_Z (a_K 0) (a_R 0) p_Z_4 u_Z ++ (cl_X4 g a_R (a_K 0) p_R_8 u_R ++ (cl_X8 g a_K (a_P 0) u_K ++ (cl_X0 g a_B2 (a_L2 0) u_B2 ++ (cl_X5 g a_L2 u_L2 v_L2 ++ (cl_X5 g a_L u_L v_L ++ (cl_X6 g a_P u_P ++ (cl_X12 g a_M u_M v_M ++ X)))))))))))))))))))) H locs) (hl : lv_has ls 7 [(0, .ref b), (1, .ref (a_T 0)), (2, .ref (a_M 0)), (3, .ref qo), (4, .int x4)]) (kk : ∀ {H : Heap} {locs : List Loc}, WD g A s.heap (cl_X11 g a_T (a_P 0) (a_B 0) (a_B2 0) (a_Z 0) (a_W 0) (a_W2 0) (a_Y 0) (a_D 0) (a_F 0) (a_G 0) u_T ++ (cl_X10 g a_W (a_B 0) (a_N 0) u_W ++ (cl_X0 g a_B (a_L 0) u_B ++ (cl_X3 g a_G u_G ++ (cl_X2 g a_F u_F ++ (cl_X1 g a_D u_D ++ (cl_X9 g a_Y (a_W3 0) u_Y ++ (cl_X10 g a_W3 zq_W3_0 (a_N3 0) zu_W3 ++ (cl_N g a_N3 zv_N3 ++ (cl_X10 g a_W2 p_W2_0 (a_N2 0) u_W2 ++ (cl_N g a_N2 v_N2 ++ (cl_N g a_N v_N ++ (cl_X7 g a_Z (a_K 0) (a_R 0) p_Z_4 u_Z ++ (cl_X4 g a_R (a_K 0) p_R_8 u_R ++ (cl_X8 g a_K (a_P 0) u_K ++ (cl_X0 g a_B2 (a_L2 0) u_B2 ++ (cl_X5 g a_L2 u_L2 v_L2 ++ (cl_X5 g a_L u_L zv_L ++ (cl_X6 g a_P u_P ++ (cl_X12 g a_M zu_M zv_M ++ X)))))))))))))))))))) H locs → lv_has ls 7 [(0, .ref b), (1, .ref (a_T 0)), (2, .ref (a_M 0)), (3, .ref qo), (4, .int x4)] → W p l e room_1 s m #[Value.ref b] below meth c H locs cells slots Q (F0 m 1567 ls [])) : W p l e room_1 s m #[Value.ref b] below meth c H locs cells slots Q (F0 m 1177 ls []) := by
  have hx := S.1
  have hb := S.2.1
  refine lv_aload_n hx hb dL_law_1177 rfl (lv_at hl 1 rfl) ?_
  refine lv_aload_n hx hb dL_law_1178 rfl (lv_at hl 0 rfl) ?_
  refine lv_iload hx hb dL_law_1179 (lv_at hl 4 rfl) ?_
  refine lv_iconst (v := 1) hx hb dL_law_1181 (by decide) ?_
  refine lv_iadd hx hb dL_law_1182 ?_
  refine va_sld hx hb hX hbl hbA hw.2.2 hi1 dL_law_1183 ?_
  have hw := hw.u8
  have hw := hw.u17
  have hw := hw.u9
  have hw := hw.u4
  have hw := hw.u9
  have hw := hw.u6
  have hw := hw.u6
  refine tx_ci hw (tx_runV S hE hw (c_X11_nextRead hc) lk_L_149 (q0 := 0) rfl rfl rfl hl.1 (rest := []) rfl (Nat.le_of_ble_eq_true rfl) ⟨by decide, by decide⟩ dL_law_1184 hcs) (fun H locs hw => ?_)
  refine lv_aload_n hx hb dL_law_1187 rfl (lv_at hl 2 rfl) ?_
  refine lv_aload_n hx hb dL_law_1188 rfl (lv_at hl 0 rfl) ?_
  refine lv_iload hx hb dL_law_1189 (lv_at hl 4 rfl) ?_
  refine lv_iconst (v := 1) hx hb dL_law_1191 (by decide) ?_
  refine lv_iadd hx hb dL_law_1192 ?_
  refine va_sld hx hb hX hbl hbA hw.2.2 hi1 dL_law_1193 ?_
  have hw := hw.u19
  refine tx_ci hw (tx_runV S hE hw (c_X12_nextRead hm) lk_L_152 (q0 := 0) rfl rfl rfl hl.1 (rest := [.int r]) rfl (Nat.le_of_ble_eq_true rfl) ⟨by decide, by decide⟩ dL_law_1194 hcs) (fun H locs hw => ?_)
  refine lv_icmp_eq (tgt := 1567) hx hb dL_law_1197 (by decide) (fun _ => ?_) (fun h => absurd rfl h)
  have hw := hw.u19
  have hw := hw.u7
  have hw := hw.u19
  have hw := hw.u19
  have hw := hw.u19
  have hw := hw.u19
  have hw := hw.u19
  have hw := hw.u19
  have hw := hw.u19
  have hw := hw.u19
  have hw := hw.u16
  have hw := hw.u16
  have hw := hw.u15
  have hw := hw.u19
  have hw := hw.u19
  have hw := hw.u19
  have hw := hw.u18
  have hw := hw.u19
  have hw := hw.u19
  exact kk hw hl
set_option maxHeartbeats 4000000 in
set_option maxRecDepth 100000 in
theorem law_c30 {p : Program} {l : Launch} {e : Env} {s : State} {m : MethodId} {below : List Frame} {meth : Method} {c : Code} {H : Heap} {locs : List Loc} {cells slots : Nat} {Q : State → Prop} {g : GG} {A : Nat → Prop} {X : va_W} {fu : Nat} {b L qo : Nat} {xs : Nat → Int32} {x4 : Int32} {ls : Array Slot} {kc : Cond} {a_T a_W a_B a_G a_F a_D a_Y a_W3 a_N3 a_W2 a_N2 a_N a_Z a_R a_K a_B2 a_L2 a_L a_P a_M : Nat → Nat} {p_W2_0 p_W3_0 p_Z_4 p_R_8 : Nat} {u_T : S32} {u_W : S32} {u_B : S32} {u_G : S32} {u_F : S32} {u_D : S32} {u_Y : S32} {u_W3 : S32} {v_N3 : S64} {u_W2 : S32} {v_N2 : S64} {v_N : S64} {u_Z : S32} {u_R : S32} {u_K : S32} {u_B2 : S32} {u_L2 : S32} {v_L2 : S64} {u_L : S32} {v_L : S64} {u_P : S32} {u_M : S32} {v_M : S64} {r : Int32} {zu_W3 : S32} {zv_L : S64} {zv_N3 : S64} {zq_W3_0 : Nat} {zu_M : S32} {zv_M : S64} (S : CallFix p m c code 7 s #[Value.ref b] (kc :: allW) RL) (hE : EN g A s) (hX : va_X b L xs s s.heap) (hbl : b < s.heap.size) (hbA : ¬ A b) (hcs : cells ≤ room_1.cells ∧ slots ≤ room_1.slots) (hi1 : vp_in (x4 + (1 : Int32)) L) (hc : f_X11_richest fu u_T u_Y u_W u_B u_L p_W3_0 (a_B 0) u_W3 v_L v_N3 (xs (x4 + (1 : Int32)).toNatClampNeg) = some (r, zu_W3, zv_L, zv_N3, zq_W3_0)) (hm : f_X12_richest fu u_M v_M (xs (x4 + (1 : Int32)).toNatClampNeg) = some (r, zu_M, zv_M)) (hw : WD g A s.heap (cl_X11 g a_T (a_P 0) (a_B 0) (a_B2 0) (a_Z 0) (a_W 0) (a_W2 0) (a_Y 0) (a_D 0) (a_F 0) (a_G 0) u_T ++ (cl_X10 g a_W (a_B 0) (a_N 0) u_W ++ (cl_X0 g a_B (a_L 0) u_B ++ (cl_X3 g a_G u_G ++ (cl_X2 g a_F u_F ++ (cl_X1 g a_D u_D ++ (cl_X9 g a_Y (a_W3 0) u_Y ++ (cl_X10 g a_W3 p_W3_0 (a_N3 0) u_W3 ++ (cl_N g a_N3 v_N3 ++ (cl_X10 g a_W2 p_W2_0 (a_N2 0) u_W2 ++ (cl_N g a_N2 v_N2 ++ (cl_N g a_N v_N ++ (cl_X7 g a_Z (a_K 0) (a_R 0) p_Z_4 u_Z ++ (cl_X4 g a_R (a_K 0) p_R_8 u_R ++ (cl_X8 g a_K (a_P 0) u_K ++ (cl_X0 g a_B2 (a_L2 0) u_B2 ++ (cl_X5 g a_L2 u_L2 v_L2 ++ (cl_X5 g a_L u_L v_L ++ (cl_X6 g a_P u_P ++ (cl_X12 g a_M u_M v_M ++ X)))))))))))))))))))) H locs) (hl : lv_has ls 7 [(0, .ref b), (1, .ref (a_T 0)), (2, .ref (a_M 0)), (3, .ref qo), (4, .int x4)]) (kk : ∀ {H : Heap} {locs : List Loc}, WD g A s.heap (cl_X11 g a_T (a_P 0) (a_B 0) (a_B2 0) (a_Z 0) (a_W 0) (a_W2 0) (a_Y 0) (a_D 0) (a_F 0) (a_G 0) u_T ++ (cl_X10 g a_W (a_B 0) (a_N 0) u_W ++ (cl_X0 g a_B (a_L 0) u_B ++ (cl_X3 g a_G u_G ++ (cl_X2 g a_F u_F ++ (cl_X1 g a_D u_D ++ (cl_X9 g a_Y (a_W3 0) u_Y ++ (cl_X10 g a_W3 zq_W3_0 (a_N3 0) zu_W3 ++ (cl_N g a_N3 zv_N3 ++ (cl_X10 g a_W2 p_W2_0 (a_N2 0) u_W2 ++ (cl_N g a_N2 v_N2 ++ (cl_N g a_N v_N ++ (cl_X7 g a_Z (a_K 0) (a_R 0) p_Z_4 u_Z ++ (cl_X4 g a_R (a_K 0) p_R_8 u_R ++ (cl_X8 g a_K (a_P 0) u_K ++ (cl_X0 g a_B2 (a_L2 0) u_B2 ++ (cl_X5 g a_L2 u_L2 v_L2 ++ (cl_X5 g a_L u_L zv_L ++ (cl_X6 g a_P u_P ++ (cl_X12 g a_M zu_M zv_M ++ X)))))))))))))))))))) H locs → lv_has ls 7 [(0, .ref b), (1, .ref (a_T 0)), (2, .ref (a_M 0)), (3, .ref qo), (4, .int x4)] → W p l e room_1 s m #[Value.ref b] below meth c H locs cells slots Q (F0 m 1567 ls [])) : W p l e room_1 s m #[Value.ref b] below meth c H locs cells slots Q (F0 m 1202 ls []) := by
  have hx := S.1
  have hb := S.2.1
  refine lv_aload_n hx hb dL_law_1202 rfl (lv_at hl 1 rfl) ?_
  refine lv_aload_n hx hb dL_law_1203 rfl (lv_at hl 0 rfl) ?_
  refine lv_iload hx hb dL_law_1204 (lv_at hl 4 rfl) ?_
  refine lv_iconst (v := 1) hx hb dL_law_1206 (by decide) ?_
  refine lv_iadd hx hb dL_law_1207 ?_
  refine va_sld hx hb hX hbl hbA hw.2.2 hi1 dL_law_1208 ?_
  have hw := hw.u8
  have hw := hw.u17
  have hw := hw.u4
  have hw := hw.u9
  have hw := hw.u5
  have hw := hw.u9
  have hw := hw.u6
  refine tx_ci hw (tx_runV S hE hw (c_X11_richest hc) lk_L_153 (q0 := 0) rfl rfl rfl hl.1 (rest := []) rfl (Nat.le_of_ble_eq_true rfl) ⟨by decide, by decide⟩ dL_law_1209 hcs) (fun H locs hw => ?_)
  refine lv_aload_n hx hb dL_law_1212 rfl (lv_at hl 2 rfl) ?_
  refine lv_aload_n hx hb dL_law_1213 rfl (lv_at hl 0 rfl) ?_
  refine lv_iload hx hb dL_law_1214 (lv_at hl 4 rfl) ?_
  refine lv_iconst (v := 1) hx hb dL_law_1216 (by decide) ?_
  refine lv_iadd hx hb dL_law_1217 ?_
  refine va_sld hx hb hX hbl hbA hw.2.2 hi1 dL_law_1218 ?_
  have hw := hw.u19
  refine tx_ci hw (tx_runV S hE hw (c_X12_richest hm) lk_L_156 (q0 := 0) rfl rfl rfl hl.1 (rest := [.int r]) rfl (Nat.le_of_ble_eq_true rfl) ⟨by decide, by decide⟩ dL_law_1219 hcs) (fun H locs hw => ?_)
  refine lv_icmp_eq (tgt := 1567) hx hb dL_law_1222 (by decide) (fun _ => ?_) (fun h => absurd rfl h)
  have hw := hw.u19
  have hw := hw.u7
  have hw := hw.u19
  have hw := hw.u19
  have hw := hw.u19
  have hw := hw.u19
  have hw := hw.u19
  have hw := hw.u19
  have hw := hw.u19
  have hw := hw.u19
  have hw := hw.u16
  have hw := hw.u15
  have hw := hw.u14
  have hw := hw.u19
  have hw := hw.u19
  have hw := hw.u19
  have hw := hw.u19
  have hw := hw.u19
  have hw := hw.u19
  exact kk hw hl
set_option maxHeartbeats 4000000 in
set_option maxRecDepth 100000 in
theorem law_c31 {p : Program} {l : Launch} {e : Env} {s : State} {m : MethodId} {below : List Frame} {meth : Method} {c : Code} {H : Heap} {locs : List Loc} {cells slots : Nat} {Q : State → Prop} {g : GG} {A : Nat → Prop} {X : va_W} {fu : Nat} {b L qo : Nat} {xs : Nat → Int32} {x4 : Int32} {ls : Array Slot} {kc : Cond} {a_T a_W a_B a_G a_F a_D a_Y a_W3 a_N3 a_W2 a_N2 a_N a_Z a_R a_K a_B2 a_L2 a_L a_P a_M : Nat → Nat} {p_W2_0 p_W3_0 p_Z_4 p_R_8 : Nat} {u_T : S32} {u_W : S32} {u_B : S32} {u_G : S32} {u_F : S32} {u_D : S32} {u_Y : S32} {u_W3 : S32} {v_N3 : S64} {u_W2 : S32} {v_N2 : S64} {v_N : S64} {u_Z : S32} {u_R : S32} {u_K : S32} {u_B2 : S32} {u_L2 : S32} {v_L2 : S64} {u_L : S32} {v_L : S64} {u_P : S32} {u_M : S32} {v_M : S64} {r : Int32} {zu_M : S32} (S : CallFix p m c code 7 s #[Value.ref b] (kc :: allW) RL) (hE : EN g A s) (hX : va_X b L xs s s.heap) (hbl : b < s.heap.size) (hbA : ¬ A b) (hcs : cells ≤ room_1.cells ∧ slots ≤ room_1.slots) (hi1 : vp_in (x4 + (1 : Int32)) L) (hc : f_X11_holds fu u_T u_B u_W (xs (x4 + (1 : Int32)).toNatClampNeg) = some r) (hm : f_X12_holds fu v_M u_M (xs (x4 + (1 : Int32)).toNatClampNeg) = some (r, zu_M)) (hw : WD g A s.heap (cl_X11 g a_T (a_P 0) (a_B 0) (a_B2 0) (a_Z 0) (a_W 0) (a_W2 0) (a_Y 0) (a_D 0) (a_F 0) (a_G 0) u_T ++ (cl_X10 g a_W (a_B 0) (a_N 0) u_W ++ (cl_X0 g a_B (a_L 0) u_B ++ (cl_X3 g a_G u_G ++ (cl_X2 g a_F u_F ++ (cl_X1 g a_D u_D ++ (cl_X9 g a_Y (a_W3 0) u_Y ++ (cl_X10 g a_W3 p_W3_0 (a_N3 0) u_W3 ++ (cl_N g a_N3 v_N3 ++ (cl_X10 g a_W2 p_W2_0 (a_N2 0) u_W2 ++ (cl_N g a_N2 v_N2 ++ (cl_N g a_N v_N ++ (cl_X7 g a_Z (a_K 0) (a_R 0) p_Z_4 u_Z ++ (cl_X4 g a_R (a_K 0) p_R_8 u_R ++ (cl_X8 g a_K (a_P 0) u_K ++ (cl_X0 g a_B2 (a_L2 0) u_B2 ++ (cl_X5 g a_L2 u_L2 v_L2 ++ (cl_X5 g a_L u_L v_L ++ (cl_X6 g a_P u_P ++ (cl_X12 g a_M u_M v_M ++ X)))))))))))))))))))) H locs) (hl : lv_has ls 7 [(0, .ref b), (1, .ref (a_T 0)), (2, .ref (a_M 0)), (3, .ref qo), (4, .int x4)]) (kk : ∀ {H : Heap} {locs : List Loc}, WD g A s.heap (cl_X11 g a_T (a_P 0) (a_B 0) (a_B2 0) (a_Z 0) (a_W 0) (a_W2 0) (a_Y 0) (a_D 0) (a_F 0) (a_G 0) u_T ++ (cl_X10 g a_W (a_B 0) (a_N 0) u_W ++ (cl_X0 g a_B (a_L 0) u_B ++ (cl_X3 g a_G u_G ++ (cl_X2 g a_F u_F ++ (cl_X1 g a_D u_D ++ (cl_X9 g a_Y (a_W3 0) u_Y ++ (cl_X10 g a_W3 p_W3_0 (a_N3 0) u_W3 ++ (cl_N g a_N3 v_N3 ++ (cl_X10 g a_W2 p_W2_0 (a_N2 0) u_W2 ++ (cl_N g a_N2 v_N2 ++ (cl_N g a_N v_N ++ (cl_X7 g a_Z (a_K 0) (a_R 0) p_Z_4 u_Z ++ (cl_X4 g a_R (a_K 0) p_R_8 u_R ++ (cl_X8 g a_K (a_P 0) u_K ++ (cl_X0 g a_B2 (a_L2 0) u_B2 ++ (cl_X5 g a_L2 u_L2 v_L2 ++ (cl_X5 g a_L u_L v_L ++ (cl_X6 g a_P u_P ++ (cl_X12 g a_M zu_M v_M ++ X)))))))))))))))))))) H locs → lv_has ls 7 [(0, .ref b), (1, .ref (a_T 0)), (2, .ref (a_M 0)), (3, .ref qo), (4, .int x4)] → W p l e room_1 s m #[Value.ref b] below meth c H locs cells slots Q (F0 m 1567 ls [])) : W p l e room_1 s m #[Value.ref b] below meth c H locs cells slots Q (F0 m 1227 ls []) := by
  have hx := S.1
  have hb := S.2.1
  refine lv_aload_n hx hb dL_law_1227 rfl (lv_at hl 1 rfl) ?_
  refine lv_aload_n hx hb dL_law_1228 rfl (lv_at hl 0 rfl) ?_
  refine lv_iload hx hb dL_law_1229 (lv_at hl 4 rfl) ?_
  refine lv_iconst (v := 1) hx hb dL_law_1231 (by decide) ?_
  refine lv_iadd hx hb dL_law_1232 ?_
  refine va_sld hx hb hX hbl hbA hw.2.2 hi1 dL_law_1233 ?_
  have hw := hw.u1
  have hw := hw.u2
  have hw := hw.u2
  refine tx_ci hw (tx_runV S hE hw (c_X11_holds hc) lk_L_157 (q0 := 0) rfl rfl rfl hl.1 (rest := []) rfl (Nat.le_of_ble_eq_true rfl) ⟨by decide, by decide⟩ dL_law_1234 hcs) (fun H locs hw => ?_)
  refine lv_aload_n hx hb dL_law_1237 rfl (lv_at hl 2 rfl) ?_
  refine lv_aload_n hx hb dL_law_1238 rfl (lv_at hl 0 rfl) ?_
  refine lv_iload hx hb dL_law_1239 (lv_at hl 4 rfl) ?_
  refine lv_iconst (v := 1) hx hb dL_law_1241 (by decide) ?_
  refine lv_iadd hx hb dL_law_1242 ?_
  refine va_sld hx hb hX hbl hbA hw.2.2 hi1 dL_law_1243 ?_
  have hw := hw.u19
  refine tx_ci hw (tx_runV S hE hw (c_X12_holds hm) lk_L_160 (q0 := 0) rfl rfl rfl hl.1 (rest := [.int r]) rfl (Nat.le_of_ble_eq_true rfl) ⟨by decide, by decide⟩ dL_law_1244 hcs) (fun H locs hw => ?_)
  refine lv_icmp_eq (tgt := 1567) hx hb dL_law_1247 (by decide) (fun _ => ?_) (fun h => absurd rfl h)
  have hw := hw.u19
  have hw := hw.u19
  have hw := hw.u19
  have hw := hw.u19
  have hw := hw.u19
  have hw := hw.u19
  have hw := hw.u19
  have hw := hw.u19
  have hw := hw.u19
  have hw := hw.u19
  have hw := hw.u19
  have hw := hw.u19
  have hw := hw.u19
  have hw := hw.u19
  have hw := hw.u19
  have hw := hw.u19
  have hw := hw.u18
  have hw := hw.u19
  have hw := hw.u19
  exact kk hw hl
set_option maxHeartbeats 4000000 in
set_option maxRecDepth 100000 in
theorem law_c32 {p : Program} {l : Launch} {e : Env} {s : State} {m : MethodId} {below : List Frame} {meth : Method} {c : Code} {H : Heap} {locs : List Loc} {cells slots : Nat} {Q : State → Prop} {g : GG} {A : Nat → Prop} {X : va_W} {fu : Nat} {b L qo : Nat} {xs : Nat → Int32} {x4 : Int32} {ls : Array Slot} {kc : Cond} {a_T a_W a_B a_G a_F a_D a_Y a_W3 a_N3 a_W2 a_N2 a_N a_Z a_R a_K a_B2 a_L2 a_L a_P a_M : Nat → Nat} {p_W2_0 p_W3_0 p_Z_4 p_R_8 : Nat} {u_T : S32} {u_W : S32} {u_B : S32} {u_G : S32} {u_F : S32} {u_D : S32} {u_Y : S32} {u_W3 : S32} {v_N3 : S64} {u_W2 : S32} {v_N2 : S64} {v_N : S64} {u_Z : S32} {u_R : S32} {u_K : S32} {u_B2 : S32} {u_L2 : S32} {v_L2 : S64} {u_L : S32} {v_L : S64} {u_P : S32} {u_M : S32} {v_M : S64} {r : Int32} {zu_M : S32} (S : CallFix p m c code 7 s #[Value.ref b] (kc :: allW) RL) (hE : EN g A s) (hX : va_X b L xs s s.heap) (hbl : b < s.heap.size) (hbA : ¬ A b) (hcs : cells ≤ room_1.cells ∧ slots ≤ room_1.slots) (hc : f_X11_hidden fu u_T u_W u_B = some r) (hm : f_X12_hidden fu v_M u_M = some (r, zu_M)) (hw : WD g A s.heap (cl_X11 g a_T (a_P 0) (a_B 0) (a_B2 0) (a_Z 0) (a_W 0) (a_W2 0) (a_Y 0) (a_D 0) (a_F 0) (a_G 0) u_T ++ (cl_X10 g a_W (a_B 0) (a_N 0) u_W ++ (cl_X0 g a_B (a_L 0) u_B ++ (cl_X3 g a_G u_G ++ (cl_X2 g a_F u_F ++ (cl_X1 g a_D u_D ++ (cl_X9 g a_Y (a_W3 0) u_Y ++ (cl_X10 g a_W3 p_W3_0 (a_N3 0) u_W3 ++ (cl_N g a_N3 v_N3 ++ (cl_X10 g a_W2 p_W2_0 (a_N2 0) u_W2 ++ (cl_N g a_N2 v_N2 ++ (cl_N g a_N v_N ++ (cl_X7 g a_Z (a_K 0) (a_R 0) p_Z_4 u_Z ++ (cl_X4 g a_R (a_K 0) p_R_8 u_R ++ (cl_X8 g a_K (a_P 0) u_K ++ (cl_X0 g a_B2 (a_L2 0) u_B2 ++ (cl_X5 g a_L2 u_L2 v_L2 ++ (cl_X5 g a_L u_L v_L ++ (cl_X6 g a_P u_P ++ (cl_X12 g a_M u_M v_M ++ X)))))))))))))))))))) H locs) (hl : lv_has ls 7 [(0, .ref b), (1, .ref (a_T 0)), (2, .ref (a_M 0)), (3, .ref qo), (4, .int x4)]) (kk : ∀ {H : Heap} {locs : List Loc}, WD g A s.heap (cl_X11 g a_T (a_P 0) (a_B 0) (a_B2 0) (a_Z 0) (a_W 0) (a_W2 0) (a_Y 0) (a_D 0) (a_F 0) (a_G 0) u_T ++ (cl_X10 g a_W (a_B 0) (a_N 0) u_W ++ (cl_X0 g a_B (a_L 0) u_B ++ (cl_X3 g a_G u_G ++ (cl_X2 g a_F u_F ++ (cl_X1 g a_D u_D ++ (cl_X9 g a_Y (a_W3 0) u_Y ++ (cl_X10 g a_W3 p_W3_0 (a_N3 0) u_W3 ++ (cl_N g a_N3 v_N3 ++ (cl_X10 g a_W2 p_W2_0 (a_N2 0) u_W2 ++ (cl_N g a_N2 v_N2 ++ (cl_N g a_N v_N ++ (cl_X7 g a_Z (a_K 0) (a_R 0) p_Z_4 u_Z ++ (cl_X4 g a_R (a_K 0) p_R_8 u_R ++ (cl_X8 g a_K (a_P 0) u_K ++ (cl_X0 g a_B2 (a_L2 0) u_B2 ++ (cl_X5 g a_L2 u_L2 v_L2 ++ (cl_X5 g a_L u_L v_L ++ (cl_X6 g a_P u_P ++ (cl_X12 g a_M zu_M v_M ++ X)))))))))))))))))))) H locs → lv_has ls 7 [(0, .ref b), (1, .ref (a_T 0)), (2, .ref (a_M 0)), (3, .ref qo), (4, .int x4)] → W p l e room_1 s m #[Value.ref b] below meth c H locs cells slots Q (F0 m 1567 ls [])) : W p l e room_1 s m #[Value.ref b] below meth c H locs cells slots Q (F0 m 1252 ls []) := by
  have hx := S.1
  have hb := S.2.1
  refine lv_aload_n hx hb dL_law_1252 rfl (lv_at hl 1 rfl) ?_
  refine tx_ci hw (tx_runV S hE hw (c_X11_hidden hc) lk_L_161 (q0 := 0) rfl rfl rfl hl.1 (rest := []) rfl (Nat.le_of_ble_eq_true rfl) ⟨by decide, by decide⟩ dL_law_1253 hcs) (fun H locs hw => ?_)
  refine lv_aload_n hx hb dL_law_1256 rfl (lv_at hl 2 rfl) ?_
  have hw := hw.u19
  refine tx_ci hw (tx_runV S hE hw (c_X12_hidden hm) lk_L_164 (q0 := 0) rfl rfl rfl hl.1 (rest := [.int r]) rfl (Nat.le_of_ble_eq_true rfl) ⟨by decide, by decide⟩ dL_law_1257 hcs) (fun H locs hw => ?_)
  refine lv_icmp_eq (tgt := 1567) hx hb dL_law_1260 (by decide) (fun _ => ?_) (fun h => absurd rfl h)
  have hw := hw.u19
  have hw := hw.u19
  have hw := hw.u19
  have hw := hw.u19
  have hw := hw.u19
  have hw := hw.u19
  have hw := hw.u19
  have hw := hw.u19
  have hw := hw.u19
  have hw := hw.u19
  have hw := hw.u19
  have hw := hw.u19
  have hw := hw.u19
  have hw := hw.u19
  have hw := hw.u19
  have hw := hw.u19
  have hw := hw.u19
  have hw := hw.u19
  have hw := hw.u19
  exact kk hw hl
set_option maxHeartbeats 4000000 in
set_option maxRecDepth 100000 in
theorem law_c33t {p : Program} {l : Launch} {e : Env} {s : State} {m : MethodId} {below : List Frame} {meth : Method} {c : Code} {H : Heap} {locs : List Loc} {cells slots : Nat} {Q : State → Prop} {g : GG} {A : Nat → Prop} {X : va_W} {fu : Nat} {b L qo : Nat} {xs : Nat → Int32} {x4 : Int32} {ls : Array Slot} {kc : Cond} {a_T a_W a_B a_G a_F a_D a_Y a_W3 a_N3 a_W2 a_N2 a_N a_Z a_R a_K a_B2 a_L2 a_L a_P a_M : Nat → Nat} {p_W2_0 p_W3_0 p_Z_4 p_R_8 : Nat} {u_T : S32} {u_W : S32} {u_B : S32} {u_G : S32} {u_F : S32} {u_D : S32} {u_Y : S32} {u_W3 : S32} {v_N3 : S64} {u_W2 : S32} {v_N2 : S64} {v_N : S64} {u_Z : S32} {u_R : S32} {u_K : S32} {u_B2 : S32} {u_L2 : S32} {v_L2 : S64} {u_L : S32} {v_L : S64} {u_P : S32} {u_M : S32} {v_M : S64} {r : Int32} {zu_F : S32} {zu_M : S32} (S : CallFix p m c code 7 s #[Value.ref b] (kc :: allW) RL) (hE : EN g A s) (hX : va_X b L xs s s.heap) (hbl : b < s.heap.size) (hbA : ¬ A b) (hcs : cells ≤ room_1.cells ∧ slots ≤ room_1.slots) (hi1 : vp_in (x4 + (1 : Int32)) L) (hi2 : vp_in (x4 + (2 : Int32)) L) (hi3 : vp_in (x4 + (3 : Int32)) L) (hz : ¬ xs (x4 + (3 : Int32)).toNatClampNeg = 0) (hc : f_X11_find fu u_T u_B u_F (xs (x4 + (1 : Int32)).toNatClampNeg) (xs (x4 + (2 : Int32)).toNatClampNeg) (1 : Int32) = some (r, zu_F)) (hm : f_X12_find fu v_M u_M (xs (x4 + (1 : Int32)).toNatClampNeg) (xs (x4 + (2 : Int32)).toNatClampNeg) (1 : Int32) = some (r, zu_M)) (hw : WD g A s.heap (cl_X11 g a_T (a_P 0) (a_B 0) (a_B2 0) (a_Z 0) (a_W 0) (a_W2 0) (a_Y 0) (a_D 0) (a_F 0) (a_G 0) u_T ++ (cl_X10 g a_W (a_B 0) (a_N 0) u_W ++ (cl_X0 g a_B (a_L 0) u_B ++ (cl_X3 g a_G u_G ++ (cl_X2 g a_F u_F ++ (cl_X1 g a_D u_D ++ (cl_X9 g a_Y (a_W3 0) u_Y ++ (cl_X10 g a_W3 p_W3_0 (a_N3 0) u_W3 ++ (cl_N g a_N3 v_N3 ++ (cl_X10 g a_W2 p_W2_0 (a_N2 0) u_W2 ++ (cl_N g a_N2 v_N2 ++ (cl_N g a_N v_N ++ (cl_X7 g a_Z (a_K 0) (a_R 0) p_Z_4 u_Z ++ (cl_X4 g a_R (a_K 0) p_R_8 u_R ++ (cl_X8 g a_K (a_P 0) u_K ++ (cl_X0 g a_B2 (a_L2 0) u_B2 ++ (cl_X5 g a_L2 u_L2 v_L2 ++ (cl_X5 g a_L u_L v_L ++ (cl_X6 g a_P u_P ++ (cl_X12 g a_M u_M v_M ++ X)))))))))))))))))))) H locs) (hl : lv_has ls 7 [(0, .ref b), (1, .ref (a_T 0)), (2, .ref (a_M 0)), (3, .ref qo), (4, .int x4)]) (kk : ∀ {H : Heap} {locs : List Loc}, WD g A s.heap (cl_X11 g a_T (a_P 0) (a_B 0) (a_B2 0) (a_Z 0) (a_W 0) (a_W2 0) (a_Y 0) (a_D 0) (a_F 0) (a_G 0) u_T ++ (cl_X10 g a_W (a_B 0) (a_N 0) u_W ++ (cl_X0 g a_B (a_L 0) u_B ++ (cl_X3 g a_G u_G ++ (cl_X2 g a_F zu_F ++ (cl_X1 g a_D u_D ++ (cl_X9 g a_Y (a_W3 0) u_Y ++ (cl_X10 g a_W3 p_W3_0 (a_N3 0) u_W3 ++ (cl_N g a_N3 v_N3 ++ (cl_X10 g a_W2 p_W2_0 (a_N2 0) u_W2 ++ (cl_N g a_N2 v_N2 ++ (cl_N g a_N v_N ++ (cl_X7 g a_Z (a_K 0) (a_R 0) p_Z_4 u_Z ++ (cl_X4 g a_R (a_K 0) p_R_8 u_R ++ (cl_X8 g a_K (a_P 0) u_K ++ (cl_X0 g a_B2 (a_L2 0) u_B2 ++ (cl_X5 g a_L2 u_L2 v_L2 ++ (cl_X5 g a_L u_L v_L ++ (cl_X6 g a_P u_P ++ (cl_X12 g a_M zu_M v_M ++ X)))))))))))))))))))) H locs → lv_has ls 7 [(0, .ref b), (1, .ref (a_T 0)), (2, .ref (a_M 0)), (3, .ref qo), (4, .int x4)] → W p l e room_1 s m #[Value.ref b] below meth c H locs cells slots Q (F0 m 1567 ls [])) : W p l e room_1 s m #[Value.ref b] below meth c H locs cells slots Q (F0 m 1265 ls []) := by
  have hx := S.1
  have hb := S.2.1
  refine lv_aload_n hx hb dL_law_1265 rfl (lv_at hl 1 rfl) ?_
  refine lv_aload_n hx hb dL_law_1266 rfl (lv_at hl 0 rfl) ?_
  refine lv_iload hx hb dL_law_1267 (lv_at hl 4 rfl) ?_
  refine lv_iconst (v := 1) hx hb dL_law_1269 (by decide) ?_
  refine lv_iadd hx hb dL_law_1270 ?_
  refine va_sld hx hb hX hbl hbA hw.2.2 hi1 dL_law_1271 ?_
  refine lv_aload_n hx hb dL_law_1272 rfl (lv_at hl 0 rfl) ?_
  refine lv_iload hx hb dL_law_1273 (lv_at hl 4 rfl) ?_
  refine lv_iconst (v := 2) hx hb dL_law_1275 (by decide) ?_
  refine lv_iadd hx hb dL_law_1276 ?_
  refine va_sld hx hb hX hbl hbA hw.2.2 hi2 dL_law_1277 ?_
  refine lv_aload_n hx hb dL_law_1278 rfl (lv_at hl 0 rfl) ?_
  refine lv_iload hx hb dL_law_1279 (lv_at hl 4 rfl) ?_
  refine lv_iconst (v := 3) hx hb dL_law_1281 (by decide) ?_
  refine lv_iadd hx hb dL_law_1282 ?_
  refine va_sld hx hb hX hbl hbA hw.2.2 hi3 dL_law_1283 ?_
  refine lv_if_eq (tgt := 1291) hx hb dL_law_1284 (by decide) (fun h => absurd h hz) (fun _ => ?_)
  refine lv_iconst (v := 1) hx hb dL_law_1287 (by decide) ?_
  refine lv_goto (tgt := 1292) hx hb dL_law_1288 (by decide) ?_
  have hw := hw.u4
  have hw := hw.u3
  have hw := hw.u2
  refine tx_ci hw (tx_runV S hE hw (c_X11_find hc) lk_L_165 (q0 := 0) rfl rfl rfl hl.1 (rest := []) rfl (Nat.le_of_ble_eq_true rfl) ⟨by decide, by decide⟩ dL_law_1292 hcs) (fun H locs hw => ?_)
  refine lv_aload_n hx hb dL_law_1295 rfl (lv_at hl 2 rfl) ?_
  refine lv_aload_n hx hb dL_law_1296 rfl (lv_at hl 0 rfl) ?_
  refine lv_iload hx hb dL_law_1297 (lv_at hl 4 rfl) ?_
  refine lv_iconst (v := 1) hx hb dL_law_1299 (by decide) ?_
  refine lv_iadd hx hb dL_law_1300 ?_
  refine va_sld hx hb hX hbl hbA hw.2.2 hi1 dL_law_1301 ?_
  refine lv_aload_n hx hb dL_law_1302 rfl (lv_at hl 0 rfl) ?_
  refine lv_iload hx hb dL_law_1303 (lv_at hl 4 rfl) ?_
  refine lv_iconst (v := 2) hx hb dL_law_1305 (by decide) ?_
  refine lv_iadd hx hb dL_law_1306 ?_
  refine va_sld hx hb hX hbl hbA hw.2.2 hi2 dL_law_1307 ?_
  refine lv_aload_n hx hb dL_law_1308 rfl (lv_at hl 0 rfl) ?_
  refine lv_iload hx hb dL_law_1309 (lv_at hl 4 rfl) ?_
  refine lv_iconst (v := 3) hx hb dL_law_1311 (by decide) ?_
  refine lv_iadd hx hb dL_law_1312 ?_
  refine va_sld hx hb hX hbl hbA hw.2.2 hi3 dL_law_1313 ?_
  refine lv_if_eq (tgt := 1321) hx hb dL_law_1314 (by decide) (fun h => absurd h hz) (fun _ => ?_)
  refine lv_iconst (v := 1) hx hb dL_law_1317 (by decide) ?_
  refine lv_goto (tgt := 1322) hx hb dL_law_1318 (by decide) ?_
  have hw := hw.u19
  refine tx_ci hw (tx_runV S hE hw (c_X12_find hm) lk_L_169 (q0 := 0) rfl rfl rfl hl.1 (rest := [.int r]) rfl (Nat.le_of_ble_eq_true rfl) ⟨by decide, by decide⟩ dL_law_1322 hcs) (fun H locs hw => ?_)
  refine lv_icmp_eq (tgt := 1567) hx hb dL_law_1325 (by decide) (fun _ => ?_) (fun h => absurd rfl h)
  have hw := hw.u19
  have hw := hw.u19
  have hw := hw.u19
  have hw := hw.u19
  have hw := hw.u19
  have hw := hw.u19
  have hw := hw.u19
  have hw := hw.u19
  have hw := hw.u19
  have hw := hw.u19
  have hw := hw.u19
  have hw := hw.u19
  have hw := hw.u19
  have hw := hw.u19
  have hw := hw.u17
  have hw := hw.u19
  have hw := hw.u18
  have hw := hw.u19
  have hw := hw.u19
  exact kk hw hl
set_option maxHeartbeats 4000000 in
set_option maxRecDepth 100000 in
theorem law_c33f {p : Program} {l : Launch} {e : Env} {s : State} {m : MethodId} {below : List Frame} {meth : Method} {c : Code} {H : Heap} {locs : List Loc} {cells slots : Nat} {Q : State → Prop} {g : GG} {A : Nat → Prop} {X : va_W} {fu : Nat} {b L qo : Nat} {xs : Nat → Int32} {x4 : Int32} {ls : Array Slot} {kc : Cond} {a_T a_W a_B a_G a_F a_D a_Y a_W3 a_N3 a_W2 a_N2 a_N a_Z a_R a_K a_B2 a_L2 a_L a_P a_M : Nat → Nat} {p_W2_0 p_W3_0 p_Z_4 p_R_8 : Nat} {u_T : S32} {u_W : S32} {u_B : S32} {u_G : S32} {u_F : S32} {u_D : S32} {u_Y : S32} {u_W3 : S32} {v_N3 : S64} {u_W2 : S32} {v_N2 : S64} {v_N : S64} {u_Z : S32} {u_R : S32} {u_K : S32} {u_B2 : S32} {u_L2 : S32} {v_L2 : S64} {u_L : S32} {v_L : S64} {u_P : S32} {u_M : S32} {v_M : S64} {r : Int32} {zu_F : S32} {zu_M : S32} (S : CallFix p m c code 7 s #[Value.ref b] (kc :: allW) RL) (hE : EN g A s) (hX : va_X b L xs s s.heap) (hbl : b < s.heap.size) (hbA : ¬ A b) (hcs : cells ≤ room_1.cells ∧ slots ≤ room_1.slots) (hi1 : vp_in (x4 + (1 : Int32)) L) (hi2 : vp_in (x4 + (2 : Int32)) L) (hi3 : vp_in (x4 + (3 : Int32)) L) (hz : xs (x4 + (3 : Int32)).toNatClampNeg = 0) (hc : f_X11_find fu u_T u_B u_F (xs (x4 + (1 : Int32)).toNatClampNeg) (xs (x4 + (2 : Int32)).toNatClampNeg) (0 : Int32) = some (r, zu_F)) (hm : f_X12_find fu v_M u_M (xs (x4 + (1 : Int32)).toNatClampNeg) (xs (x4 + (2 : Int32)).toNatClampNeg) (0 : Int32) = some (r, zu_M)) (hw : WD g A s.heap (cl_X11 g a_T (a_P 0) (a_B 0) (a_B2 0) (a_Z 0) (a_W 0) (a_W2 0) (a_Y 0) (a_D 0) (a_F 0) (a_G 0) u_T ++ (cl_X10 g a_W (a_B 0) (a_N 0) u_W ++ (cl_X0 g a_B (a_L 0) u_B ++ (cl_X3 g a_G u_G ++ (cl_X2 g a_F u_F ++ (cl_X1 g a_D u_D ++ (cl_X9 g a_Y (a_W3 0) u_Y ++ (cl_X10 g a_W3 p_W3_0 (a_N3 0) u_W3 ++ (cl_N g a_N3 v_N3 ++ (cl_X10 g a_W2 p_W2_0 (a_N2 0) u_W2 ++ (cl_N g a_N2 v_N2 ++ (cl_N g a_N v_N ++ (cl_X7 g a_Z (a_K 0) (a_R 0) p_Z_4 u_Z ++ (cl_X4 g a_R (a_K 0) p_R_8 u_R ++ (cl_X8 g a_K (a_P 0) u_K ++ (cl_X0 g a_B2 (a_L2 0) u_B2 ++ (cl_X5 g a_L2 u_L2 v_L2 ++ (cl_X5 g a_L u_L v_L ++ (cl_X6 g a_P u_P ++ (cl_X12 g a_M u_M v_M ++ X)))))))))))))))))))) H locs) (hl : lv_has ls 7 [(0, .ref b), (1, .ref (a_T 0)), (2, .ref (a_M 0)), (3, .ref qo), (4, .int x4)]) (kk : ∀ {H : Heap} {locs : List Loc}, WD g A s.heap (cl_X11 g a_T (a_P 0) (a_B 0) (a_B2 0) (a_Z 0) (a_W 0) (a_W2 0) (a_Y 0) (a_D 0) (a_F 0) (a_G 0) u_T ++ (cl_X10 g a_W (a_B 0) (a_N 0) u_W ++ (cl_X0 g a_B (a_L 0) u_B ++ (cl_X3 g a_G u_G ++ (cl_X2 g a_F zu_F ++ (cl_X1 g a_D u_D ++ (cl_X9 g a_Y (a_W3 0) u_Y ++ (cl_X10 g a_W3 p_W3_0 (a_N3 0) u_W3 ++ (cl_N g a_N3 v_N3 ++ (cl_X10 g a_W2 p_W2_0 (a_N2 0) u_W2 ++ (cl_N g a_N2 v_N2 ++ (cl_N g a_N v_N ++ (cl_X7 g a_Z (a_K 0) (a_R 0) p_Z_4 u_Z ++ (cl_X4 g a_R (a_K 0) p_R_8 u_R ++ (cl_X8 g a_K (a_P 0) u_K ++ (cl_X0 g a_B2 (a_L2 0) u_B2 ++ (cl_X5 g a_L2 u_L2 v_L2 ++ (cl_X5 g a_L u_L v_L ++ (cl_X6 g a_P u_P ++ (cl_X12 g a_M zu_M v_M ++ X)))))))))))))))))))) H locs → lv_has ls 7 [(0, .ref b), (1, .ref (a_T 0)), (2, .ref (a_M 0)), (3, .ref qo), (4, .int x4)] → W p l e room_1 s m #[Value.ref b] below meth c H locs cells slots Q (F0 m 1567 ls [])) : W p l e room_1 s m #[Value.ref b] below meth c H locs cells slots Q (F0 m 1265 ls []) := by
  have hx := S.1
  have hb := S.2.1
  refine lv_aload_n hx hb dL_law_1265 rfl (lv_at hl 1 rfl) ?_
  refine lv_aload_n hx hb dL_law_1266 rfl (lv_at hl 0 rfl) ?_
  refine lv_iload hx hb dL_law_1267 (lv_at hl 4 rfl) ?_
  refine lv_iconst (v := 1) hx hb dL_law_1269 (by decide) ?_
  refine lv_iadd hx hb dL_law_1270 ?_
  refine va_sld hx hb hX hbl hbA hw.2.2 hi1 dL_law_1271 ?_
  refine lv_aload_n hx hb dL_law_1272 rfl (lv_at hl 0 rfl) ?_
  refine lv_iload hx hb dL_law_1273 (lv_at hl 4 rfl) ?_
  refine lv_iconst (v := 2) hx hb dL_law_1275 (by decide) ?_
  refine lv_iadd hx hb dL_law_1276 ?_
  refine va_sld hx hb hX hbl hbA hw.2.2 hi2 dL_law_1277 ?_
  refine lv_aload_n hx hb dL_law_1278 rfl (lv_at hl 0 rfl) ?_
  refine lv_iload hx hb dL_law_1279 (lv_at hl 4 rfl) ?_
  refine lv_iconst (v := 3) hx hb dL_law_1281 (by decide) ?_
  refine lv_iadd hx hb dL_law_1282 ?_
  refine va_sld hx hb hX hbl hbA hw.2.2 hi3 dL_law_1283 ?_
  refine lv_if_eq (tgt := 1291) hx hb dL_law_1284 (by decide) (fun _ => ?_) (fun h => absurd hz h)
  refine lv_iconst (v := 0) hx hb dL_law_1291 (by decide) ?_
  have hw := hw.u4
  have hw := hw.u3
  have hw := hw.u2
  refine tx_ci hw (tx_runV S hE hw (c_X11_find hc) lk_L_165 (q0 := 0) rfl rfl rfl hl.1 (rest := []) rfl (Nat.le_of_ble_eq_true rfl) ⟨by decide, by decide⟩ dL_law_1292 hcs) (fun H locs hw => ?_)
  refine lv_aload_n hx hb dL_law_1295 rfl (lv_at hl 2 rfl) ?_
  refine lv_aload_n hx hb dL_law_1296 rfl (lv_at hl 0 rfl) ?_
  refine lv_iload hx hb dL_law_1297 (lv_at hl 4 rfl) ?_
  refine lv_iconst (v := 1) hx hb dL_law_1299 (by decide) ?_
  refine lv_iadd hx hb dL_law_1300 ?_
  refine va_sld hx hb hX hbl hbA hw.2.2 hi1 dL_law_1301 ?_
  refine lv_aload_n hx hb dL_law_1302 rfl (lv_at hl 0 rfl) ?_
  refine lv_iload hx hb dL_law_1303 (lv_at hl 4 rfl) ?_
  refine lv_iconst (v := 2) hx hb dL_law_1305 (by decide) ?_
  refine lv_iadd hx hb dL_law_1306 ?_
  refine va_sld hx hb hX hbl hbA hw.2.2 hi2 dL_law_1307 ?_
  refine lv_aload_n hx hb dL_law_1308 rfl (lv_at hl 0 rfl) ?_
  refine lv_iload hx hb dL_law_1309 (lv_at hl 4 rfl) ?_
  refine lv_iconst (v := 3) hx hb dL_law_1311 (by decide) ?_
  refine lv_iadd hx hb dL_law_1312 ?_
  refine va_sld hx hb hX hbl hbA hw.2.2 hi3 dL_law_1313 ?_
  refine lv_if_eq (tgt := 1321) hx hb dL_law_1314 (by decide) (fun _ => ?_) (fun h => absurd hz h)
  refine lv_iconst (v := 0) hx hb dL_law_1321 (by decide) ?_
  have hw := hw.u19
  refine tx_ci hw (tx_runV S hE hw (c_X12_find hm) lk_L_169 (q0 := 0) rfl rfl rfl hl.1 (rest := [.int r]) rfl (Nat.le_of_ble_eq_true rfl) ⟨by decide, by decide⟩ dL_law_1322 hcs) (fun H locs hw => ?_)
  refine lv_icmp_eq (tgt := 1567) hx hb dL_law_1325 (by decide) (fun _ => ?_) (fun h => absurd rfl h)
  have hw := hw.u19
  have hw := hw.u19
  have hw := hw.u19
  have hw := hw.u19
  have hw := hw.u19
  have hw := hw.u19
  have hw := hw.u19
  have hw := hw.u19
  have hw := hw.u19
  have hw := hw.u19
  have hw := hw.u19
  have hw := hw.u19
  have hw := hw.u19
  have hw := hw.u19
  have hw := hw.u17
  have hw := hw.u19
  have hw := hw.u18
  have hw := hw.u19
  have hw := hw.u19
  exact kk hw hl
set_option maxHeartbeats 4000000 in
set_option maxRecDepth 100000 in
theorem law_c34 {p : Program} {l : Launch} {e : Env} {s : State} {m : MethodId} {below : List Frame} {meth : Method} {c : Code} {H : Heap} {locs : List Loc} {cells slots : Nat} {Q : State → Prop} {g : GG} {A : Nat → Prop} {X : va_W} {fu : Nat} {b L qo : Nat} {xs : Nat → Int32} {x4 : Int32} {ls : Array Slot} {kc : Cond} {a_T a_W a_B a_G a_F a_D a_Y a_W3 a_N3 a_W2 a_N2 a_N a_Z a_R a_K a_B2 a_L2 a_L a_P a_M : Nat → Nat} {p_W2_0 p_W3_0 p_Z_4 p_R_8 : Nat} {u_T : S32} {u_W : S32} {u_B : S32} {u_G : S32} {u_F : S32} {u_D : S32} {u_Y : S32} {u_W3 : S32} {v_N3 : S64} {u_W2 : S32} {v_N2 : S64} {v_N : S64} {u_Z : S32} {u_R : S32} {u_K : S32} {u_B2 : S32} {u_L2 : S32} {v_L2 : S64} {u_L : S32} {v_L : S64} {u_P : S32} {u_M : S32} {v_M : S64} {r : Int32} {zu_F : S32} {zu_M : S32} (S : CallFix p m c code 7 s #[Value.ref b] (kc :: allW) RL) (hE : EN g A s) (hX : va_X b L xs s s.heap) (hbl : b < s.heap.size) (hbA : ¬ A b) (hcs : cells ≤ room_1.cells ∧ slots ≤ room_1.slots) (hi1 : vp_in (x4 + (1 : Int32)) L) (hc : f_X11_strike fu u_T u_F (xs (x4 + (1 : Int32)).toNatClampNeg) = some (r, zu_F)) (hm : f_X12_strike fu v_M u_M (xs (x4 + (1 : Int32)).toNatClampNeg) = some (r, zu_M)) (hw : WD g A s.heap (cl_X11 g a_T (a_P 0) (a_B 0) (a_B2 0) (a_Z 0) (a_W 0) (a_W2 0) (a_Y 0) (a_D 0) (a_F 0) (a_G 0) u_T ++ (cl_X10 g a_W (a_B 0) (a_N 0) u_W ++ (cl_X0 g a_B (a_L 0) u_B ++ (cl_X3 g a_G u_G ++ (cl_X2 g a_F u_F ++ (cl_X1 g a_D u_D ++ (cl_X9 g a_Y (a_W3 0) u_Y ++ (cl_X10 g a_W3 p_W3_0 (a_N3 0) u_W3 ++ (cl_N g a_N3 v_N3 ++ (cl_X10 g a_W2 p_W2_0 (a_N2 0) u_W2 ++ (cl_N g a_N2 v_N2 ++ (cl_N g a_N v_N ++ (cl_X7 g a_Z (a_K 0) (a_R 0) p_Z_4 u_Z ++ (cl_X4 g a_R (a_K 0) p_R_8 u_R ++ (cl_X8 g a_K (a_P 0) u_K ++ (cl_X0 g a_B2 (a_L2 0) u_B2 ++ (cl_X5 g a_L2 u_L2 v_L2 ++ (cl_X5 g a_L u_L v_L ++ (cl_X6 g a_P u_P ++ (cl_X12 g a_M u_M v_M ++ X)))))))))))))))))))) H locs) (hl : lv_has ls 7 [(0, .ref b), (1, .ref (a_T 0)), (2, .ref (a_M 0)), (3, .ref qo), (4, .int x4)]) (kk : ∀ {H : Heap} {locs : List Loc}, WD g A s.heap (cl_X11 g a_T (a_P 0) (a_B 0) (a_B2 0) (a_Z 0) (a_W 0) (a_W2 0) (a_Y 0) (a_D 0) (a_F 0) (a_G 0) u_T ++ (cl_X10 g a_W (a_B 0) (a_N 0) u_W ++ (cl_X0 g a_B (a_L 0) u_B ++ (cl_X3 g a_G u_G ++ (cl_X2 g a_F zu_F ++ (cl_X1 g a_D u_D ++ (cl_X9 g a_Y (a_W3 0) u_Y ++ (cl_X10 g a_W3 p_W3_0 (a_N3 0) u_W3 ++ (cl_N g a_N3 v_N3 ++ (cl_X10 g a_W2 p_W2_0 (a_N2 0) u_W2 ++ (cl_N g a_N2 v_N2 ++ (cl_N g a_N v_N ++ (cl_X7 g a_Z (a_K 0) (a_R 0) p_Z_4 u_Z ++ (cl_X4 g a_R (a_K 0) p_R_8 u_R ++ (cl_X8 g a_K (a_P 0) u_K ++ (cl_X0 g a_B2 (a_L2 0) u_B2 ++ (cl_X5 g a_L2 u_L2 v_L2 ++ (cl_X5 g a_L u_L v_L ++ (cl_X6 g a_P u_P ++ (cl_X12 g a_M zu_M v_M ++ X)))))))))))))))))))) H locs → lv_has ls 7 [(0, .ref b), (1, .ref (a_T 0)), (2, .ref (a_M 0)), (3, .ref qo), (4, .int x4)] → W p l e room_1 s m #[Value.ref b] below meth c H locs cells slots Q (F0 m 1567 ls [])) : W p l e room_1 s m #[Value.ref b] below meth c H locs cells slots Q (F0 m 1330 ls []) := by
  have hx := S.1
  have hb := S.2.1
  refine lv_aload_n hx hb dL_law_1330 rfl (lv_at hl 1 rfl) ?_
  refine lv_aload_n hx hb dL_law_1331 rfl (lv_at hl 0 rfl) ?_
  refine lv_iload hx hb dL_law_1332 (lv_at hl 4 rfl) ?_
  refine lv_iconst (v := 1) hx hb dL_law_1334 (by decide) ?_
  refine lv_iadd hx hb dL_law_1335 ?_
  refine va_sld hx hb hX hbl hbA hw.2.2 hi1 dL_law_1336 ?_
  have hw := hw.u4
  have hw := hw.u1
  refine tx_ci hw (tx_runV S hE hw (c_X11_strike hc) lk_L_170 (q0 := 0) rfl rfl rfl hl.1 (rest := []) rfl (Nat.le_of_ble_eq_true rfl) ⟨by decide, by decide⟩ dL_law_1337 hcs) (fun H locs hw => ?_)
  refine lv_aload_n hx hb dL_law_1340 rfl (lv_at hl 2 rfl) ?_
  refine lv_aload_n hx hb dL_law_1341 rfl (lv_at hl 0 rfl) ?_
  refine lv_iload hx hb dL_law_1342 (lv_at hl 4 rfl) ?_
  refine lv_iconst (v := 1) hx hb dL_law_1344 (by decide) ?_
  refine lv_iadd hx hb dL_law_1345 ?_
  refine va_sld hx hb hX hbl hbA hw.2.2 hi1 dL_law_1346 ?_
  have hw := hw.u19
  refine tx_ci hw (tx_runV S hE hw (c_X12_strike hm) lk_L_173 (q0 := 0) rfl rfl rfl hl.1 (rest := [.int r]) rfl (Nat.le_of_ble_eq_true rfl) ⟨by decide, by decide⟩ dL_law_1347 hcs) (fun H locs hw => ?_)
  refine lv_icmp_eq (tgt := 1567) hx hb dL_law_1350 (by decide) (fun _ => ?_) (fun h => absurd rfl h)
  have hw := hw.u19
  have hw := hw.u19
  have hw := hw.u19
  have hw := hw.u19
  have hw := hw.u19
  have hw := hw.u19
  have hw := hw.u19
  have hw := hw.u19
  have hw := hw.u19
  have hw := hw.u19
  have hw := hw.u19
  have hw := hw.u19
  have hw := hw.u19
  have hw := hw.u19
  have hw := hw.u16
  have hw := hw.u19
  have hw := hw.u19
  have hw := hw.u19
  have hw := hw.u19
  exact kk hw hl
set_option maxHeartbeats 4000000 in
set_option maxRecDepth 100000 in
theorem law_c35 {p : Program} {l : Launch} {e : Env} {s : State} {m : MethodId} {below : List Frame} {meth : Method} {c : Code} {H : Heap} {locs : List Loc} {cells slots : Nat} {Q : State → Prop} {g : GG} {A : Nat → Prop} {X : va_W} {fu : Nat} {b L qo : Nat} {xs : Nat → Int32} {x4 : Int32} {ls : Array Slot} {kc : Cond} {a_T a_W a_B a_G a_F a_D a_Y a_W3 a_N3 a_W2 a_N2 a_N a_Z a_R a_K a_B2 a_L2 a_L a_P a_M : Nat → Nat} {p_W2_0 p_W3_0 p_Z_4 p_R_8 : Nat} {u_T : S32} {u_W : S32} {u_B : S32} {u_G : S32} {u_F : S32} {u_D : S32} {u_Y : S32} {u_W3 : S32} {v_N3 : S64} {u_W2 : S32} {v_N2 : S64} {v_N : S64} {u_Z : S32} {u_R : S32} {u_K : S32} {u_B2 : S32} {u_L2 : S32} {v_L2 : S64} {u_L : S32} {v_L : S64} {u_P : S32} {u_M : S32} {v_M : S64} {r : Int32} {zu_F : S32} {zu_M : S32} (S : CallFix p m c code 7 s #[Value.ref b] (kc :: allW) RL) (hE : EN g A s) (hX : va_X b L xs s s.heap) (hbl : b < s.heap.size) (hbA : ¬ A b) (hcs : cells ≤ room_1.cells ∧ slots ≤ room_1.slots) (hi1 : vp_in (x4 + (1 : Int32)) L) (hc : f_X11_known fu u_T u_F (xs (x4 + (1 : Int32)).toNatClampNeg) = some (r, zu_F)) (hm : f_X12_known fu v_M u_M (xs (x4 + (1 : Int32)).toNatClampNeg) = some (r, zu_M)) (hw : WD g A s.heap (cl_X11 g a_T (a_P 0) (a_B 0) (a_B2 0) (a_Z 0) (a_W 0) (a_W2 0) (a_Y 0) (a_D 0) (a_F 0) (a_G 0) u_T ++ (cl_X10 g a_W (a_B 0) (a_N 0) u_W ++ (cl_X0 g a_B (a_L 0) u_B ++ (cl_X3 g a_G u_G ++ (cl_X2 g a_F u_F ++ (cl_X1 g a_D u_D ++ (cl_X9 g a_Y (a_W3 0) u_Y ++ (cl_X10 g a_W3 p_W3_0 (a_N3 0) u_W3 ++ (cl_N g a_N3 v_N3 ++ (cl_X10 g a_W2 p_W2_0 (a_N2 0) u_W2 ++ (cl_N g a_N2 v_N2 ++ (cl_N g a_N v_N ++ (cl_X7 g a_Z (a_K 0) (a_R 0) p_Z_4 u_Z ++ (cl_X4 g a_R (a_K 0) p_R_8 u_R ++ (cl_X8 g a_K (a_P 0) u_K ++ (cl_X0 g a_B2 (a_L2 0) u_B2 ++ (cl_X5 g a_L2 u_L2 v_L2 ++ (cl_X5 g a_L u_L v_L ++ (cl_X6 g a_P u_P ++ (cl_X12 g a_M u_M v_M ++ X)))))))))))))))))))) H locs) (hl : lv_has ls 7 [(0, .ref b), (1, .ref (a_T 0)), (2, .ref (a_M 0)), (3, .ref qo), (4, .int x4)]) (kk : ∀ {H : Heap} {locs : List Loc}, WD g A s.heap (cl_X11 g a_T (a_P 0) (a_B 0) (a_B2 0) (a_Z 0) (a_W 0) (a_W2 0) (a_Y 0) (a_D 0) (a_F 0) (a_G 0) u_T ++ (cl_X10 g a_W (a_B 0) (a_N 0) u_W ++ (cl_X0 g a_B (a_L 0) u_B ++ (cl_X3 g a_G u_G ++ (cl_X2 g a_F zu_F ++ (cl_X1 g a_D u_D ++ (cl_X9 g a_Y (a_W3 0) u_Y ++ (cl_X10 g a_W3 p_W3_0 (a_N3 0) u_W3 ++ (cl_N g a_N3 v_N3 ++ (cl_X10 g a_W2 p_W2_0 (a_N2 0) u_W2 ++ (cl_N g a_N2 v_N2 ++ (cl_N g a_N v_N ++ (cl_X7 g a_Z (a_K 0) (a_R 0) p_Z_4 u_Z ++ (cl_X4 g a_R (a_K 0) p_R_8 u_R ++ (cl_X8 g a_K (a_P 0) u_K ++ (cl_X0 g a_B2 (a_L2 0) u_B2 ++ (cl_X5 g a_L2 u_L2 v_L2 ++ (cl_X5 g a_L u_L v_L ++ (cl_X6 g a_P u_P ++ (cl_X12 g a_M zu_M v_M ++ X)))))))))))))))))))) H locs → lv_has ls 7 [(0, .ref b), (1, .ref (a_T 0)), (2, .ref (a_M 0)), (3, .ref qo), (4, .int x4)] → W p l e room_1 s m #[Value.ref b] below meth c H locs cells slots Q (F0 m 1567 ls [])) : W p l e room_1 s m #[Value.ref b] below meth c H locs cells slots Q (F0 m 1355 ls []) := by
  have hx := S.1
  have hb := S.2.1
  refine lv_aload_n hx hb dL_law_1355 rfl (lv_at hl 1 rfl) ?_
  refine lv_aload_n hx hb dL_law_1356 rfl (lv_at hl 0 rfl) ?_
  refine lv_iload hx hb dL_law_1357 (lv_at hl 4 rfl) ?_
  refine lv_iconst (v := 1) hx hb dL_law_1359 (by decide) ?_
  refine lv_iadd hx hb dL_law_1360 ?_
  refine va_sld hx hb hX hbl hbA hw.2.2 hi1 dL_law_1361 ?_
  have hw := hw.u4
  have hw := hw.u1
  refine tx_ci hw (tx_runV S hE hw (c_X11_known hc) lk_L_174 (q0 := 0) rfl rfl rfl hl.1 (rest := []) rfl (Nat.le_of_ble_eq_true rfl) ⟨by decide, by decide⟩ dL_law_1362 hcs) (fun H locs hw => ?_)
  refine lv_aload_n hx hb dL_law_1365 rfl (lv_at hl 2 rfl) ?_
  refine lv_aload_n hx hb dL_law_1366 rfl (lv_at hl 0 rfl) ?_
  refine lv_iload hx hb dL_law_1367 (lv_at hl 4 rfl) ?_
  refine lv_iconst (v := 1) hx hb dL_law_1369 (by decide) ?_
  refine lv_iadd hx hb dL_law_1370 ?_
  refine va_sld hx hb hX hbl hbA hw.2.2 hi1 dL_law_1371 ?_
  have hw := hw.u19
  refine tx_ci hw (tx_runV S hE hw (c_X12_known hm) lk_L_177 (q0 := 0) rfl rfl rfl hl.1 (rest := [.int r]) rfl (Nat.le_of_ble_eq_true rfl) ⟨by decide, by decide⟩ dL_law_1372 hcs) (fun H locs hw => ?_)
  refine lv_icmp_eq (tgt := 1567) hx hb dL_law_1375 (by decide) (fun _ => ?_) (fun h => absurd rfl h)
  have hw := hw.u19
  have hw := hw.u19
  have hw := hw.u19
  have hw := hw.u19
  have hw := hw.u19
  have hw := hw.u19
  have hw := hw.u19
  have hw := hw.u19
  have hw := hw.u19
  have hw := hw.u19
  have hw := hw.u19
  have hw := hw.u19
  have hw := hw.u19
  have hw := hw.u19
  have hw := hw.u16
  have hw := hw.u19
  have hw := hw.u19
  have hw := hw.u19
  have hw := hw.u19
  exact kk hw hl
set_option maxHeartbeats 4000000 in
set_option maxRecDepth 100000 in
theorem law_c36 {p : Program} {l : Launch} {e : Env} {s : State} {m : MethodId} {below : List Frame} {meth : Method} {c : Code} {H : Heap} {locs : List Loc} {cells slots : Nat} {Q : State → Prop} {g : GG} {A : Nat → Prop} {X : va_W} {fu : Nat} {b L qo : Nat} {xs : Nat → Int32} {x4 : Int32} {ls : Array Slot} {kc : Cond} {a_T a_W a_B a_G a_F a_D a_Y a_W3 a_N3 a_W2 a_N2 a_N a_Z a_R a_K a_B2 a_L2 a_L a_P a_M : Nat → Nat} {p_W2_0 p_W3_0 p_Z_4 p_R_8 : Nat} {u_T : S32} {u_W : S32} {u_B : S32} {u_G : S32} {u_F : S32} {u_D : S32} {u_Y : S32} {u_W3 : S32} {v_N3 : S64} {u_W2 : S32} {v_N2 : S64} {v_N : S64} {u_Z : S32} {u_R : S32} {u_K : S32} {u_B2 : S32} {u_L2 : S32} {v_L2 : S64} {u_L : S32} {v_L : S64} {u_P : S32} {u_M : S32} {v_M : S64} {r : Int32} {zu_F : S32} {zu_W3 : S32} {zv_L : S64} {zv_N3 : S64} {zq_W3_0 : Nat} {zu_M : S32} {zv_M : S64} (S : CallFix p m c code 7 s #[Value.ref b] (kc :: allW) RL) (hE : EN g A s) (hX : va_X b L xs s s.heap) (hbl : b < s.heap.size) (hbA : ¬ A b) (hcs : cells ≤ room_1.cells ∧ slots ≤ room_1.slots) (hi1 : vp_in (x4 + (1 : Int32)) L) (hc : f_X11_skills fu u_T u_B u_Y u_L p_W3_0 (a_B 0) u_F u_W3 v_L v_N3 (xs (x4 + (1 : Int32)).toNatClampNeg) = some (r, zu_F, zu_W3, zv_L, zv_N3, zq_W3_0)) (hm : f_X12_skills fu u_M v_M (xs (x4 + (1 : Int32)).toNatClampNeg) = some (r, zu_M, zv_M)) (hw : WD g A s.heap (cl_X11 g a_T (a_P 0) (a_B 0) (a_B2 0) (a_Z 0) (a_W 0) (a_W2 0) (a_Y 0) (a_D 0) (a_F 0) (a_G 0) u_T ++ (cl_X10 g a_W (a_B 0) (a_N 0) u_W ++ (cl_X0 g a_B (a_L 0) u_B ++ (cl_X3 g a_G u_G ++ (cl_X2 g a_F u_F ++ (cl_X1 g a_D u_D ++ (cl_X9 g a_Y (a_W3 0) u_Y ++ (cl_X10 g a_W3 p_W3_0 (a_N3 0) u_W3 ++ (cl_N g a_N3 v_N3 ++ (cl_X10 g a_W2 p_W2_0 (a_N2 0) u_W2 ++ (cl_N g a_N2 v_N2 ++ (cl_N g a_N v_N ++ (cl_X7 g a_Z (a_K 0) (a_R 0) p_Z_4 u_Z ++ (cl_X4 g a_R (a_K 0) p_R_8 u_R ++ (cl_X8 g a_K (a_P 0) u_K ++ (cl_X0 g a_B2 (a_L2 0) u_B2 ++ (cl_X5 g a_L2 u_L2 v_L2 ++ (cl_X5 g a_L u_L v_L ++ (cl_X6 g a_P u_P ++ (cl_X12 g a_M u_M v_M ++ X)))))))))))))))))))) H locs) (hl : lv_has ls 7 [(0, .ref b), (1, .ref (a_T 0)), (2, .ref (a_M 0)), (3, .ref qo), (4, .int x4)]) (kk : ∀ {H : Heap} {locs : List Loc}, WD g A s.heap (cl_X11 g a_T (a_P 0) (a_B 0) (a_B2 0) (a_Z 0) (a_W 0) (a_W2 0) (a_Y 0) (a_D 0) (a_F 0) (a_G 0) u_T ++ (cl_X10 g a_W (a_B 0) (a_N 0) u_W ++ (cl_X0 g a_B (a_L 0) u_B ++ (cl_X3 g a_G u_G ++ (cl_X2 g a_F zu_F ++ (cl_X1 g a_D u_D ++ (cl_X9 g a_Y (a_W3 0) u_Y ++ (cl_X10 g a_W3 zq_W3_0 (a_N3 0) zu_W3 ++ (cl_N g a_N3 zv_N3 ++ (cl_X10 g a_W2 p_W2_0 (a_N2 0) u_W2 ++ (cl_N g a_N2 v_N2 ++ (cl_N g a_N v_N ++ (cl_X7 g a_Z (a_K 0) (a_R 0) p_Z_4 u_Z ++ (cl_X4 g a_R (a_K 0) p_R_8 u_R ++ (cl_X8 g a_K (a_P 0) u_K ++ (cl_X0 g a_B2 (a_L2 0) u_B2 ++ (cl_X5 g a_L2 u_L2 v_L2 ++ (cl_X5 g a_L u_L zv_L ++ (cl_X6 g a_P u_P ++ (cl_X12 g a_M zu_M zv_M ++ X)))))))))))))))))))) H locs → lv_has ls 7 [(0, .ref b), (1, .ref (a_T 0)), (2, .ref (a_M 0)), (3, .ref qo), (4, .int x4)] → W p l e room_1 s m #[Value.ref b] below meth c H locs cells slots Q (F0 m 1567 ls [])) : W p l e room_1 s m #[Value.ref b] below meth c H locs cells slots Q (F0 m 1380 ls []) := by
  have hx := S.1
  have hb := S.2.1
  refine lv_aload_n hx hb dL_law_1380 rfl (lv_at hl 1 rfl) ?_
  refine lv_aload_n hx hb dL_law_1381 rfl (lv_at hl 0 rfl) ?_
  refine lv_iload hx hb dL_law_1382 (lv_at hl 4 rfl) ?_
  refine lv_iconst (v := 1) hx hb dL_law_1384 (by decide) ?_
  refine lv_iadd hx hb dL_law_1385 ?_
  refine va_sld hx hb hX hbl hbA hw.2.2 hi1 dL_law_1386 ?_
  have hw := hw.u8
  have hw := hw.u17
  have hw := hw.u9
  have hw := hw.u7
  have hw := hw.u9
  have hw := hw.u7
  have hw := hw.u6
  refine tx_ci hw (tx_runV S hE hw (c_X11_skills hc) lk_L_178 (q0 := 0) rfl rfl rfl hl.1 (rest := []) rfl (Nat.le_of_ble_eq_true rfl) ⟨by decide, by decide⟩ dL_law_1387 hcs) (fun H locs hw => ?_)
  refine lv_aload_n hx hb dL_law_1390 rfl (lv_at hl 2 rfl) ?_
  refine lv_aload_n hx hb dL_law_1391 rfl (lv_at hl 0 rfl) ?_
  refine lv_iload hx hb dL_law_1392 (lv_at hl 4 rfl) ?_
  refine lv_iconst (v := 1) hx hb dL_law_1394 (by decide) ?_
  refine lv_iadd hx hb dL_law_1395 ?_
  refine va_sld hx hb hX hbl hbA hw.2.2 hi1 dL_law_1396 ?_
  have hw := hw.u19
  refine tx_ci hw (tx_runV S hE hw (c_X12_skills hm) lk_L_181 (q0 := 0) rfl rfl rfl hl.1 (rest := [.int r]) rfl (Nat.le_of_ble_eq_true rfl) ⟨by decide, by decide⟩ dL_law_1397 hcs) (fun H locs hw => ?_)
  refine lv_icmp_eq (tgt := 1567) hx hb dL_law_1400 (by decide) (fun _ => ?_) (fun h => absurd rfl h)
  have hw := hw.u19
  have hw := hw.u7
  have hw := hw.u19
  have hw := hw.u19
  have hw := hw.u19
  have hw := hw.u19
  have hw := hw.u19
  have hw := hw.u19
  have hw := hw.u19
  have hw := hw.u19
  have hw := hw.u16
  have hw := hw.u16
  have hw := hw.u15
  have hw := hw.u19
  have hw := hw.u17
  have hw := hw.u19
  have hw := hw.u18
  have hw := hw.u19
  have hw := hw.u19
  exact kk hw hl
set_option maxHeartbeats 4000000 in
set_option maxRecDepth 100000 in
theorem law_c37 {p : Program} {l : Launch} {e : Env} {s : State} {m : MethodId} {below : List Frame} {meth : Method} {c : Code} {H : Heap} {locs : List Loc} {cells slots : Nat} {Q : State → Prop} {g : GG} {A : Nat → Prop} {X : va_W} {fu : Nat} {b L qo : Nat} {xs : Nat → Int32} {x4 : Int32} {ls : Array Slot} {kc : Cond} {a_T a_W a_B a_G a_F a_D a_Y a_W3 a_N3 a_W2 a_N2 a_N a_Z a_R a_K a_B2 a_L2 a_L a_P a_M : Nat → Nat} {p_W2_0 p_W3_0 p_Z_4 p_R_8 : Nat} {u_T : S32} {u_W : S32} {u_B : S32} {u_G : S32} {u_F : S32} {u_D : S32} {u_Y : S32} {u_W3 : S32} {v_N3 : S64} {u_W2 : S32} {v_N2 : S64} {v_N : S64} {u_Z : S32} {u_R : S32} {u_K : S32} {u_B2 : S32} {u_L2 : S32} {v_L2 : S64} {u_L : S32} {v_L : S64} {u_P : S32} {u_M : S32} {v_M : S64} {r : Int32} {zu_W3 : S32} {zv_L : S64} {zv_N3 : S64} {zq_W3_0 : Nat} {zu_M : S32} {zv_M : S64} (S : CallFix p m c code 7 s #[Value.ref b] (kc :: allW) RL) (hE : EN g A s) (hX : va_X b L xs s s.heap) (hbl : b < s.heap.size) (hbA : ¬ A b) (hcs : cells ≤ room_1.cells ∧ slots ≤ room_1.slots) (hi1 : vp_in (x4 + (1 : Int32)) L) (hi2 : vp_in (x4 + (2 : Int32)) L) (hi3 : vp_in (x4 + (3 : Int32)) L) (hc : f_X11_chance fu u_T u_Y u_W u_B u_L p_W3_0 (a_B 0) u_W3 v_L v_N3 (xs (x4 + (1 : Int32)).toNatClampNeg) (xs (x4 + (2 : Int32)).toNatClampNeg) (xs (x4 + (3 : Int32)).toNatClampNeg) = some (r, zu_W3, zv_L, zv_N3, zq_W3_0)) (hm : f_X12_chance fu u_M v_M (xs (x4 + (1 : Int32)).toNatClampNeg) (xs (x4 + (2 : Int32)).toNatClampNeg) (xs (x4 + (3 : Int32)).toNatClampNeg) = some (r, zu_M, zv_M)) (hw : WD g A s.heap (cl_X11 g a_T (a_P 0) (a_B 0) (a_B2 0) (a_Z 0) (a_W 0) (a_W2 0) (a_Y 0) (a_D 0) (a_F 0) (a_G 0) u_T ++ (cl_X10 g a_W (a_B 0) (a_N 0) u_W ++ (cl_X0 g a_B (a_L 0) u_B ++ (cl_X3 g a_G u_G ++ (cl_X2 g a_F u_F ++ (cl_X1 g a_D u_D ++ (cl_X9 g a_Y (a_W3 0) u_Y ++ (cl_X10 g a_W3 p_W3_0 (a_N3 0) u_W3 ++ (cl_N g a_N3 v_N3 ++ (cl_X10 g a_W2 p_W2_0 (a_N2 0) u_W2 ++ (cl_N g a_N2 v_N2 ++ (cl_N g a_N v_N ++ (cl_X7 g a_Z (a_K 0) (a_R 0) p_Z_4 u_Z ++ (cl_X4 g a_R (a_K 0) p_R_8 u_R ++ (cl_X8 g a_K (a_P 0) u_K ++ (cl_X0 g a_B2 (a_L2 0) u_B2 ++ (cl_X5 g a_L2 u_L2 v_L2 ++ (cl_X5 g a_L u_L v_L ++ (cl_X6 g a_P u_P ++ (cl_X12 g a_M u_M v_M ++ X)))))))))))))))))))) H locs) (hl : lv_has ls 7 [(0, .ref b), (1, .ref (a_T 0)), (2, .ref (a_M 0)), (3, .ref qo), (4, .int x4)]) (kk : ∀ {H : Heap} {locs : List Loc}, WD g A s.heap (cl_X11 g a_T (a_P 0) (a_B 0) (a_B2 0) (a_Z 0) (a_W 0) (a_W2 0) (a_Y 0) (a_D 0) (a_F 0) (a_G 0) u_T ++ (cl_X10 g a_W (a_B 0) (a_N 0) u_W ++ (cl_X0 g a_B (a_L 0) u_B ++ (cl_X3 g a_G u_G ++ (cl_X2 g a_F u_F ++ (cl_X1 g a_D u_D ++ (cl_X9 g a_Y (a_W3 0) u_Y ++ (cl_X10 g a_W3 zq_W3_0 (a_N3 0) zu_W3 ++ (cl_N g a_N3 zv_N3 ++ (cl_X10 g a_W2 p_W2_0 (a_N2 0) u_W2 ++ (cl_N g a_N2 v_N2 ++ (cl_N g a_N v_N ++ (cl_X7 g a_Z (a_K 0) (a_R 0) p_Z_4 u_Z ++ (cl_X4 g a_R (a_K 0) p_R_8 u_R ++ (cl_X8 g a_K (a_P 0) u_K ++ (cl_X0 g a_B2 (a_L2 0) u_B2 ++ (cl_X5 g a_L2 u_L2 v_L2 ++ (cl_X5 g a_L u_L zv_L ++ (cl_X6 g a_P u_P ++ (cl_X12 g a_M zu_M zv_M ++ X)))))))))))))))))))) H locs → lv_has ls 7 [(0, .ref b), (1, .ref (a_T 0)), (2, .ref (a_M 0)), (3, .ref qo), (4, .int x4)] → W p l e room_1 s m #[Value.ref b] below meth c H locs cells slots Q (F0 m 1567 ls [])) : W p l e room_1 s m #[Value.ref b] below meth c H locs cells slots Q (F0 m 1405 ls []) := by
  have hx := S.1
  have hb := S.2.1
  refine lv_aload_n hx hb dL_law_1405 rfl (lv_at hl 1 rfl) ?_
  refine lv_aload_n hx hb dL_law_1406 rfl (lv_at hl 0 rfl) ?_
  refine lv_iload hx hb dL_law_1407 (lv_at hl 4 rfl) ?_
  refine lv_iconst (v := 1) hx hb dL_law_1409 (by decide) ?_
  refine lv_iadd hx hb dL_law_1410 ?_
  refine va_sld hx hb hX hbl hbA hw.2.2 hi1 dL_law_1411 ?_
  refine lv_aload_n hx hb dL_law_1412 rfl (lv_at hl 0 rfl) ?_
  refine lv_iload hx hb dL_law_1413 (lv_at hl 4 rfl) ?_
  refine lv_iconst (v := 2) hx hb dL_law_1415 (by decide) ?_
  refine lv_iadd hx hb dL_law_1416 ?_
  refine va_sld hx hb hX hbl hbA hw.2.2 hi2 dL_law_1417 ?_
  refine lv_aload_n hx hb dL_law_1418 rfl (lv_at hl 0 rfl) ?_
  refine lv_iload hx hb dL_law_1419 (lv_at hl 4 rfl) ?_
  refine lv_iconst (v := 3) hx hb dL_law_1421 (by decide) ?_
  refine lv_iadd hx hb dL_law_1422 ?_
  refine va_sld hx hb hX hbl hbA hw.2.2 hi3 dL_law_1423 ?_
  have hw := hw.u8
  have hw := hw.u17
  have hw := hw.u4
  have hw := hw.u9
  have hw := hw.u5
  have hw := hw.u9
  have hw := hw.u6
  refine tx_ci hw (tx_runV S hE hw (c_X11_chance hc) lk_L_182 (q0 := 0) rfl rfl rfl hl.1 (rest := []) rfl (Nat.le_of_ble_eq_true rfl) ⟨by decide, by decide⟩ dL_law_1424 hcs) (fun H locs hw => ?_)
  refine lv_aload_n hx hb dL_law_1427 rfl (lv_at hl 2 rfl) ?_
  refine lv_aload_n hx hb dL_law_1428 rfl (lv_at hl 0 rfl) ?_
  refine lv_iload hx hb dL_law_1429 (lv_at hl 4 rfl) ?_
  refine lv_iconst (v := 1) hx hb dL_law_1431 (by decide) ?_
  refine lv_iadd hx hb dL_law_1432 ?_
  refine va_sld hx hb hX hbl hbA hw.2.2 hi1 dL_law_1433 ?_
  refine lv_aload_n hx hb dL_law_1434 rfl (lv_at hl 0 rfl) ?_
  refine lv_iload hx hb dL_law_1435 (lv_at hl 4 rfl) ?_
  refine lv_iconst (v := 2) hx hb dL_law_1437 (by decide) ?_
  refine lv_iadd hx hb dL_law_1438 ?_
  refine va_sld hx hb hX hbl hbA hw.2.2 hi2 dL_law_1439 ?_
  refine lv_aload_n hx hb dL_law_1440 rfl (lv_at hl 0 rfl) ?_
  refine lv_iload hx hb dL_law_1441 (lv_at hl 4 rfl) ?_
  refine lv_iconst (v := 3) hx hb dL_law_1443 (by decide) ?_
  refine lv_iadd hx hb dL_law_1444 ?_
  refine va_sld hx hb hX hbl hbA hw.2.2 hi3 dL_law_1445 ?_
  have hw := hw.u19
  refine tx_ci hw (tx_runV S hE hw (c_X12_chance hm) lk_L_185 (q0 := 0) rfl rfl rfl hl.1 (rest := [.int r]) rfl (Nat.le_of_ble_eq_true rfl) ⟨by decide, by decide⟩ dL_law_1446 hcs) (fun H locs hw => ?_)
  refine lv_icmp_eq (tgt := 1567) hx hb dL_law_1449 (by decide) (fun _ => ?_) (fun h => absurd rfl h)
  have hw := hw.u19
  have hw := hw.u7
  have hw := hw.u19
  have hw := hw.u19
  have hw := hw.u19
  have hw := hw.u19
  have hw := hw.u19
  have hw := hw.u19
  have hw := hw.u19
  have hw := hw.u19
  have hw := hw.u16
  have hw := hw.u15
  have hw := hw.u14
  have hw := hw.u19
  have hw := hw.u19
  have hw := hw.u19
  have hw := hw.u19
  have hw := hw.u19
  have hw := hw.u19
  exact kk hw hl
set_option maxHeartbeats 4000000 in
set_option maxRecDepth 100000 in
theorem law_c38 {p : Program} {l : Launch} {e : Env} {s : State} {m : MethodId} {below : List Frame} {meth : Method} {c : Code} {H : Heap} {locs : List Loc} {cells slots : Nat} {Q : State → Prop} {g : GG} {A : Nat → Prop} {X : va_W} {fu : Nat} {b L qo : Nat} {xs : Nat → Int32} {x4 : Int32} {ls : Array Slot} {kc : Cond} {a_T a_W a_B a_G a_F a_D a_Y a_W3 a_N3 a_W2 a_N2 a_N a_Z a_R a_K a_B2 a_L2 a_L a_P a_M : Nat → Nat} {p_W2_0 p_W3_0 p_Z_4 p_R_8 : Nat} {u_T : S32} {u_W : S32} {u_B : S32} {u_G : S32} {u_F : S32} {u_D : S32} {u_Y : S32} {u_W3 : S32} {v_N3 : S64} {u_W2 : S32} {v_N2 : S64} {v_N : S64} {u_Z : S32} {u_R : S32} {u_K : S32} {u_B2 : S32} {u_L2 : S32} {v_L2 : S64} {u_L : S32} {v_L : S64} {u_P : S32} {u_M : S32} {v_M : S64} {r : Int32} {zu_W3 : S32} {zv_L : S64} {zv_N3 : S64} {zq_W3_0 : Nat} {zu_M : S32} {zv_M : S64} (S : CallFix p m c code 7 s #[Value.ref b] (kc :: allW) RL) (hE : EN g A s) (hX : va_X b L xs s s.heap) (hbl : b < s.heap.size) (hbA : ¬ A b) (hcs : cells ≤ room_1.cells ∧ slots ≤ room_1.slots) (hi1 : vp_in (x4 + (1 : Int32)) L) (hi2 : vp_in (x4 + (2 : Int32)) L) (hi3 : vp_in (x4 + (3 : Int32)) L) (hc : f_X11_tried fu u_T u_B u_Y u_W u_L p_W3_0 (a_B 0) u_W3 v_L v_N3 (xs (x4 + (1 : Int32)).toNatClampNeg) (xs (x4 + (2 : Int32)).toNatClampNeg) (xs (x4 + (3 : Int32)).toNatClampNeg) = some (r, zu_W3, zv_L, zv_N3, zq_W3_0)) (hm : f_X12_tried fu u_M v_M (xs (x4 + (1 : Int32)).toNatClampNeg) (xs (x4 + (2 : Int32)).toNatClampNeg) (xs (x4 + (3 : Int32)).toNatClampNeg) = some (r, zu_M, zv_M)) (hw : WD g A s.heap (cl_X11 g a_T (a_P 0) (a_B 0) (a_B2 0) (a_Z 0) (a_W 0) (a_W2 0) (a_Y 0) (a_D 0) (a_F 0) (a_G 0) u_T ++ (cl_X10 g a_W (a_B 0) (a_N 0) u_W ++ (cl_X0 g a_B (a_L 0) u_B ++ (cl_X3 g a_G u_G ++ (cl_X2 g a_F u_F ++ (cl_X1 g a_D u_D ++ (cl_X9 g a_Y (a_W3 0) u_Y ++ (cl_X10 g a_W3 p_W3_0 (a_N3 0) u_W3 ++ (cl_N g a_N3 v_N3 ++ (cl_X10 g a_W2 p_W2_0 (a_N2 0) u_W2 ++ (cl_N g a_N2 v_N2 ++ (cl_N g a_N v_N ++ (cl_X7 g a_Z (a_K 0) (a_R 0) p_Z_4 u_Z ++ (cl_X4 g a_R (a_K 0) p_R_8 u_R ++ (cl_X8 g a_K (a_P 0) u_K ++ (cl_X0 g a_B2 (a_L2 0) u_B2 ++ (cl_X5 g a_L2 u_L2 v_L2 ++ (cl_X5 g a_L u_L v_L ++ (cl_X6 g a_P u_P ++ (cl_X12 g a_M u_M v_M ++ X)))))))))))))))))))) H locs) (hl : lv_has ls 7 [(0, .ref b), (1, .ref (a_T 0)), (2, .ref (a_M 0)), (3, .ref qo), (4, .int x4)]) (kk : ∀ {H : Heap} {locs : List Loc}, WD g A s.heap (cl_X11 g a_T (a_P 0) (a_B 0) (a_B2 0) (a_Z 0) (a_W 0) (a_W2 0) (a_Y 0) (a_D 0) (a_F 0) (a_G 0) u_T ++ (cl_X10 g a_W (a_B 0) (a_N 0) u_W ++ (cl_X0 g a_B (a_L 0) u_B ++ (cl_X3 g a_G u_G ++ (cl_X2 g a_F u_F ++ (cl_X1 g a_D u_D ++ (cl_X9 g a_Y (a_W3 0) u_Y ++ (cl_X10 g a_W3 zq_W3_0 (a_N3 0) zu_W3 ++ (cl_N g a_N3 zv_N3 ++ (cl_X10 g a_W2 p_W2_0 (a_N2 0) u_W2 ++ (cl_N g a_N2 v_N2 ++ (cl_N g a_N v_N ++ (cl_X7 g a_Z (a_K 0) (a_R 0) p_Z_4 u_Z ++ (cl_X4 g a_R (a_K 0) p_R_8 u_R ++ (cl_X8 g a_K (a_P 0) u_K ++ (cl_X0 g a_B2 (a_L2 0) u_B2 ++ (cl_X5 g a_L2 u_L2 v_L2 ++ (cl_X5 g a_L u_L zv_L ++ (cl_X6 g a_P u_P ++ (cl_X12 g a_M zu_M zv_M ++ X)))))))))))))))))))) H locs → lv_has ls 7 [(0, .ref b), (1, .ref (a_T 0)), (2, .ref (a_M 0)), (3, .ref qo), (4, .int x4)] → W p l e room_1 s m #[Value.ref b] below meth c H locs cells slots Q (F0 m 1567 ls [])) : W p l e room_1 s m #[Value.ref b] below meth c H locs cells slots Q (F0 m 1454 ls []) := by
  have hx := S.1
  have hb := S.2.1
  refine lv_aload_n hx hb dL_law_1454 rfl (lv_at hl 1 rfl) ?_
  refine lv_aload_n hx hb dL_law_1455 rfl (lv_at hl 0 rfl) ?_
  refine lv_iload hx hb dL_law_1456 (lv_at hl 4 rfl) ?_
  refine lv_iconst (v := 1) hx hb dL_law_1458 (by decide) ?_
  refine lv_iadd hx hb dL_law_1459 ?_
  refine va_sld hx hb hX hbl hbA hw.2.2 hi1 dL_law_1460 ?_
  refine lv_aload_n hx hb dL_law_1461 rfl (lv_at hl 0 rfl) ?_
  refine lv_iload hx hb dL_law_1462 (lv_at hl 4 rfl) ?_
  refine lv_iconst (v := 2) hx hb dL_law_1464 (by decide) ?_
  refine lv_iadd hx hb dL_law_1465 ?_
  refine va_sld hx hb hX hbl hbA hw.2.2 hi2 dL_law_1466 ?_
  refine lv_aload_n hx hb dL_law_1467 rfl (lv_at hl 0 rfl) ?_
  refine lv_iload hx hb dL_law_1468 (lv_at hl 4 rfl) ?_
  refine lv_iconst (v := 3) hx hb dL_law_1470 (by decide) ?_
  refine lv_iadd hx hb dL_law_1471 ?_
  refine va_sld hx hb hX hbl hbA hw.2.2 hi3 dL_law_1472 ?_
  have hw := hw.u8
  have hw := hw.u17
  have hw := hw.u9
  have hw := hw.u4
  have hw := hw.u9
  have hw := hw.u6
  have hw := hw.u6
  refine tx_ci hw (tx_runV S hE hw (c_X11_tried hc) lk_L_186 (q0 := 0) rfl rfl rfl hl.1 (rest := []) rfl (Nat.le_of_ble_eq_true rfl) ⟨by decide, by decide⟩ dL_law_1473 hcs) (fun H locs hw => ?_)
  refine lv_aload_n hx hb dL_law_1476 rfl (lv_at hl 2 rfl) ?_
  refine lv_aload_n hx hb dL_law_1477 rfl (lv_at hl 0 rfl) ?_
  refine lv_iload hx hb dL_law_1478 (lv_at hl 4 rfl) ?_
  refine lv_iconst (v := 1) hx hb dL_law_1480 (by decide) ?_
  refine lv_iadd hx hb dL_law_1481 ?_
  refine va_sld hx hb hX hbl hbA hw.2.2 hi1 dL_law_1482 ?_
  refine lv_aload_n hx hb dL_law_1483 rfl (lv_at hl 0 rfl) ?_
  refine lv_iload hx hb dL_law_1484 (lv_at hl 4 rfl) ?_
  refine lv_iconst (v := 2) hx hb dL_law_1486 (by decide) ?_
  refine lv_iadd hx hb dL_law_1487 ?_
  refine va_sld hx hb hX hbl hbA hw.2.2 hi2 dL_law_1488 ?_
  refine lv_aload_n hx hb dL_law_1489 rfl (lv_at hl 0 rfl) ?_
  refine lv_iload hx hb dL_law_1490 (lv_at hl 4 rfl) ?_
  refine lv_iconst (v := 3) hx hb dL_law_1492 (by decide) ?_
  refine lv_iadd hx hb dL_law_1493 ?_
  refine va_sld hx hb hX hbl hbA hw.2.2 hi3 dL_law_1494 ?_
  have hw := hw.u19
  refine tx_ci hw (tx_runV S hE hw (c_X12_tried hm) lk_L_189 (q0 := 0) rfl rfl rfl hl.1 (rest := [.int r]) rfl (Nat.le_of_ble_eq_true rfl) ⟨by decide, by decide⟩ dL_law_1495 hcs) (fun H locs hw => ?_)
  refine lv_icmp_eq (tgt := 1567) hx hb dL_law_1498 (by decide) (fun _ => ?_) (fun h => absurd rfl h)
  have hw := hw.u19
  have hw := hw.u7
  have hw := hw.u19
  have hw := hw.u19
  have hw := hw.u19
  have hw := hw.u19
  have hw := hw.u19
  have hw := hw.u19
  have hw := hw.u19
  have hw := hw.u19
  have hw := hw.u16
  have hw := hw.u16
  have hw := hw.u15
  have hw := hw.u19
  have hw := hw.u19
  have hw := hw.u19
  have hw := hw.u18
  have hw := hw.u19
  have hw := hw.u19
  exact kk hw hl
set_option maxHeartbeats 4000000 in
set_option maxRecDepth 100000 in
theorem law_c39 {p : Program} {l : Launch} {e : Env} {s : State} {m : MethodId} {below : List Frame} {meth : Method} {c : Code} {H : Heap} {locs : List Loc} {cells slots : Nat} {Q : State → Prop} {g : GG} {A : Nat → Prop} {X : va_W} {fu : Nat} {b L qo : Nat} {xs : Nat → Int32} {x4 : Int32} {ls : Array Slot} {kc : Cond} {a_T a_W a_B a_G a_F a_D a_Y a_W3 a_N3 a_W2 a_N2 a_N a_Z a_R a_K a_B2 a_L2 a_L a_P a_M : Nat → Nat} {p_W2_0 p_W3_0 p_Z_4 p_R_8 : Nat} {u_T : S32} {u_W : S32} {u_B : S32} {u_G : S32} {u_F : S32} {u_D : S32} {u_Y : S32} {u_W3 : S32} {v_N3 : S64} {u_W2 : S32} {v_N2 : S64} {v_N : S64} {u_Z : S32} {u_R : S32} {u_K : S32} {u_B2 : S32} {u_L2 : S32} {v_L2 : S64} {u_L : S32} {v_L : S64} {u_P : S32} {u_M : S32} {v_M : S64} {r : Int32} {zu_D : S32} {zu_W : S32} {zu_M : S32} (S : CallFix p m c code 7 s #[Value.ref b] (kc :: allW) RL) (hE : EN g A s) (hX : va_X b L xs s s.heap) (hbl : b < s.heap.size) (hbA : ¬ A b) (hcs : cells ≤ room_1.cells ∧ slots ≤ room_1.slots) (hc : f_X11_undo fu u_T u_B u_D u_W = some (r, zu_D, zu_W)) (hm : f_X12_undo fu v_M u_M = some (r, zu_M)) (hw : WD g A s.heap (cl_X11 g a_T (a_P 0) (a_B 0) (a_B2 0) (a_Z 0) (a_W 0) (a_W2 0) (a_Y 0) (a_D 0) (a_F 0) (a_G 0) u_T ++ (cl_X10 g a_W (a_B 0) (a_N 0) u_W ++ (cl_X0 g a_B (a_L 0) u_B ++ (cl_X3 g a_G u_G ++ (cl_X2 g a_F u_F ++ (cl_X1 g a_D u_D ++ (cl_X9 g a_Y (a_W3 0) u_Y ++ (cl_X10 g a_W3 p_W3_0 (a_N3 0) u_W3 ++ (cl_N g a_N3 v_N3 ++ (cl_X10 g a_W2 p_W2_0 (a_N2 0) u_W2 ++ (cl_N g a_N2 v_N2 ++ (cl_N g a_N v_N ++ (cl_X7 g a_Z (a_K 0) (a_R 0) p_Z_4 u_Z ++ (cl_X4 g a_R (a_K 0) p_R_8 u_R ++ (cl_X8 g a_K (a_P 0) u_K ++ (cl_X0 g a_B2 (a_L2 0) u_B2 ++ (cl_X5 g a_L2 u_L2 v_L2 ++ (cl_X5 g a_L u_L v_L ++ (cl_X6 g a_P u_P ++ (cl_X12 g a_M u_M v_M ++ X)))))))))))))))))))) H locs) (hl : lv_has ls 7 [(0, .ref b), (1, .ref (a_T 0)), (2, .ref (a_M 0)), (3, .ref qo), (4, .int x4)]) (kk : ∀ {H : Heap} {locs : List Loc}, WD g A s.heap (cl_X11 g a_T (a_P 0) (a_B 0) (a_B2 0) (a_Z 0) (a_W 0) (a_W2 0) (a_Y 0) (a_D 0) (a_F 0) (a_G 0) u_T ++ (cl_X10 g a_W (a_B 0) (a_N 0) zu_W ++ (cl_X0 g a_B (a_L 0) u_B ++ (cl_X3 g a_G u_G ++ (cl_X2 g a_F u_F ++ (cl_X1 g a_D zu_D ++ (cl_X9 g a_Y (a_W3 0) u_Y ++ (cl_X10 g a_W3 p_W3_0 (a_N3 0) u_W3 ++ (cl_N g a_N3 v_N3 ++ (cl_X10 g a_W2 p_W2_0 (a_N2 0) u_W2 ++ (cl_N g a_N2 v_N2 ++ (cl_N g a_N v_N ++ (cl_X7 g a_Z (a_K 0) (a_R 0) p_Z_4 u_Z ++ (cl_X4 g a_R (a_K 0) p_R_8 u_R ++ (cl_X8 g a_K (a_P 0) u_K ++ (cl_X0 g a_B2 (a_L2 0) u_B2 ++ (cl_X5 g a_L2 u_L2 v_L2 ++ (cl_X5 g a_L u_L v_L ++ (cl_X6 g a_P u_P ++ (cl_X12 g a_M zu_M v_M ++ X)))))))))))))))))))) H locs → lv_has ls 7 [(0, .ref b), (1, .ref (a_T 0)), (2, .ref (a_M 0)), (3, .ref qo), (4, .int x4)] → W p l e room_1 s m #[Value.ref b] below meth c H locs cells slots Q (F0 m 1567 ls [])) : W p l e room_1 s m #[Value.ref b] below meth c H locs cells slots Q (F0 m 1503 ls []) := by
  have hx := S.1
  have hb := S.2.1
  refine lv_aload_n hx hb dL_law_1503 rfl (lv_at hl 1 rfl) ?_
  have hw := hw.u2
  have hw := hw.u2
  have hw := hw.u5
  have hw := hw.u3
  refine tx_ci hw (tx_runV S hE hw (c_X11_undo hc) lk_L_190 (q0 := 0) rfl rfl rfl hl.1 (rest := []) rfl (Nat.le_of_ble_eq_true rfl) ⟨by decide, by decide⟩ dL_law_1504 hcs) (fun H locs hw => ?_)
  refine lv_aload_n hx hb dL_law_1507 rfl (lv_at hl 2 rfl) ?_
  have hw := hw.u19
  refine tx_ci hw (tx_runV S hE hw (c_X12_undo hm) lk_L_193 (q0 := 0) rfl rfl rfl hl.1 (rest := [.int r]) rfl (Nat.le_of_ble_eq_true rfl) ⟨by decide, by decide⟩ dL_law_1508 hcs) (fun H locs hw => ?_)
  refine lv_icmp_eq (tgt := 1567) hx hb dL_law_1511 (by decide) (fun _ => ?_) (fun h => absurd rfl h)
  have hw := hw.u19
  have hw := hw.u19
  have hw := hw.u19
  have hw := hw.u19
  have hw := hw.u19
  have hw := hw.u19
  have hw := hw.u19
  have hw := hw.u19
  have hw := hw.u19
  have hw := hw.u19
  have hw := hw.u19
  have hw := hw.u19
  have hw := hw.u19
  have hw := hw.u15
  have hw := hw.u19
  have hw := hw.u19
  have hw := hw.u19
  have hw := hw.u19
  have hw := hw.u19
  exact kk hw hl
set_option maxHeartbeats 4000000 in
set_option maxRecDepth 100000 in
theorem law_c40 {p : Program} {l : Launch} {e : Env} {s : State} {m : MethodId} {below : List Frame} {meth : Method} {c : Code} {H : Heap} {locs : List Loc} {cells slots : Nat} {Q : State → Prop} {g : GG} {A : Nat → Prop} {X : va_W} {fu : Nat} {b L qo : Nat} {xs : Nat → Int32} {x4 : Int32} {ls : Array Slot} {kc : Cond} {a_T a_W a_B a_G a_F a_D a_Y a_W3 a_N3 a_W2 a_N2 a_N a_Z a_R a_K a_B2 a_L2 a_L a_P a_M : Nat → Nat} {p_W2_0 p_W3_0 p_Z_4 p_R_8 : Nat} {u_T : S32} {u_W : S32} {u_B : S32} {u_G : S32} {u_F : S32} {u_D : S32} {u_Y : S32} {u_W3 : S32} {v_N3 : S64} {u_W2 : S32} {v_N2 : S64} {v_N : S64} {u_Z : S32} {u_R : S32} {u_K : S32} {u_B2 : S32} {u_L2 : S32} {v_L2 : S64} {u_L : S32} {v_L : S64} {u_P : S32} {u_M : S32} {v_M : S64} {r : Int32} {zu_T : S32} {zu_W2 : S32} {zu_M : S32} {zv_M : S64} (S : CallFix p m c code 7 s #[Value.ref b] (kc :: allW) RL) (hE : EN g A s) (hX : va_X b L xs s s.heap) (hbl : b < s.heap.size) (hbA : ¬ A b) (hcs : cells ≤ room_1.cells ∧ slots ≤ room_1.slots) (hc : f_X11_keep fu u_W u_T u_W2 = some (r, zu_T, zu_W2)) (hm : f_X12_keep fu u_M v_M = some (r, zu_M, zv_M)) (hw : WD g A s.heap (cl_X11 g a_T (a_P 0) (a_B 0) (a_B2 0) (a_Z 0) (a_W 0) (a_W2 0) (a_Y 0) (a_D 0) (a_F 0) (a_G 0) u_T ++ (cl_X10 g a_W (a_B 0) (a_N 0) u_W ++ (cl_X0 g a_B (a_L 0) u_B ++ (cl_X3 g a_G u_G ++ (cl_X2 g a_F u_F ++ (cl_X1 g a_D u_D ++ (cl_X9 g a_Y (a_W3 0) u_Y ++ (cl_X10 g a_W3 p_W3_0 (a_N3 0) u_W3 ++ (cl_N g a_N3 v_N3 ++ (cl_X10 g a_W2 p_W2_0 (a_N2 0) u_W2 ++ (cl_N g a_N2 v_N2 ++ (cl_N g a_N v_N ++ (cl_X7 g a_Z (a_K 0) (a_R 0) p_Z_4 u_Z ++ (cl_X4 g a_R (a_K 0) p_R_8 u_R ++ (cl_X8 g a_K (a_P 0) u_K ++ (cl_X0 g a_B2 (a_L2 0) u_B2 ++ (cl_X5 g a_L2 u_L2 v_L2 ++ (cl_X5 g a_L u_L v_L ++ (cl_X6 g a_P u_P ++ (cl_X12 g a_M u_M v_M ++ X)))))))))))))))))))) H locs) (hl : lv_has ls 7 [(0, .ref b), (1, .ref (a_T 0)), (2, .ref (a_M 0)), (3, .ref qo), (4, .int x4)]) (kk : ∀ {H : Heap} {locs : List Loc}, WD g A s.heap (cl_X11 g a_T (a_P 0) (a_B 0) (a_B2 0) (a_Z 0) (a_W 0) (a_W2 0) (a_Y 0) (a_D 0) (a_F 0) (a_G 0) zu_T ++ (cl_X10 g a_W (a_B 0) (a_N 0) u_W ++ (cl_X0 g a_B (a_L 0) u_B ++ (cl_X3 g a_G u_G ++ (cl_X2 g a_F u_F ++ (cl_X1 g a_D u_D ++ (cl_X9 g a_Y (a_W3 0) u_Y ++ (cl_X10 g a_W3 p_W3_0 (a_N3 0) u_W3 ++ (cl_N g a_N3 v_N3 ++ (cl_X10 g a_W2 (a_B 0) (a_N2 0) zu_W2 ++ (cl_N g a_N2 v_N2 ++ (cl_N g a_N v_N ++ (cl_X7 g a_Z (a_K 0) (a_R 0) p_Z_4 u_Z ++ (cl_X4 g a_R (a_K 0) p_R_8 u_R ++ (cl_X8 g a_K (a_P 0) u_K ++ (cl_X0 g a_B2 (a_L2 0) u_B2 ++ (cl_X5 g a_L2 u_L2 v_L2 ++ (cl_X5 g a_L u_L v_L ++ (cl_X6 g a_P u_P ++ (cl_X12 g a_M zu_M zv_M ++ X)))))))))))))))))))) H locs → lv_has ls 7 [(0, .ref b), (1, .ref (a_T 0)), (2, .ref (a_M 0)), (3, .ref qo), (4, .int x4)] → W p l e room_1 s m #[Value.ref b] below meth c H locs cells slots Q (F0 m 1567 ls [])) : W p l e room_1 s m #[Value.ref b] below meth c H locs cells slots Q (F0 m 1516 ls []) := by
  have hx := S.1
  have hb := S.2.1
  refine lv_aload_n hx hb dL_law_1516 rfl (lv_at hl 1 rfl) ?_
  have hw := hw.u1
  have hw := hw.u9
  have hw := hw.u2
  refine tx_ci hw (tx_runV S hE hw (c_X11_keep hc) lk_L_194 (q0 := 0) rfl rfl rfl hl.1 (rest := []) rfl (Nat.le_of_ble_eq_true rfl) ⟨by decide, by decide⟩ dL_law_1517 hcs) (fun H locs hw => ?_)
  refine lv_aload_n hx hb dL_law_1520 rfl (lv_at hl 2 rfl) ?_
  have hw := hw.u19
  refine tx_ci hw (tx_runV S hE hw (c_X12_keep hm) lk_L_197 (q0 := 0) rfl rfl rfl hl.1 (rest := [.int r]) rfl (Nat.le_of_ble_eq_true rfl) ⟨by decide, by decide⟩ dL_law_1521 hcs) (fun H locs hw => ?_)
  refine lv_icmp_eq (tgt := 1567) hx hb dL_law_1524 (by decide) (fun _ => ?_) (fun h => absurd rfl h)
  have hw := hw.u19
  have hw := hw.u19
  have hw := hw.u19
  have hw := hw.u19
  have hw := hw.u19
  have hw := hw.u19
  have hw := hw.u19
  have hw := hw.u19
  have hw := hw.u19
  have hw := hw.u11
  have hw := hw.u19
  have hw := hw.u19
  have hw := hw.u19
  have hw := hw.u19
  have hw := hw.u19
  have hw := hw.u19
  have hw := hw.u19
  have hw := hw.u19
  have hw := hw.u19
  exact kk hw hl
set_option maxHeartbeats 4000000 in
set_option maxRecDepth 100000 in
theorem law_c41 {p : Program} {l : Launch} {e : Env} {s : State} {m : MethodId} {below : List Frame} {meth : Method} {c : Code} {H : Heap} {locs : List Loc} {cells slots : Nat} {Q : State → Prop} {g : GG} {A : Nat → Prop} {X : va_W} {fu : Nat} {b L qo : Nat} {xs : Nat → Int32} {x4 : Int32} {ls : Array Slot} {kc : Cond} {a_T a_W a_B a_G a_F a_D a_Y a_W3 a_N3 a_W2 a_N2 a_N a_Z a_R a_K a_B2 a_L2 a_L a_P a_M : Nat → Nat} {p_W2_0 p_W3_0 p_Z_4 p_R_8 : Nat} {u_T : S32} {u_W : S32} {u_B : S32} {u_G : S32} {u_F : S32} {u_D : S32} {u_Y : S32} {u_W3 : S32} {v_N3 : S64} {u_W2 : S32} {v_N2 : S64} {v_N : S64} {u_Z : S32} {u_R : S32} {u_K : S32} {u_B2 : S32} {u_L2 : S32} {v_L2 : S64} {u_L : S32} {v_L : S64} {u_P : S32} {u_M : S32} {v_M : S64} {r : Int32} {zu_W : S32} {zu_D : S32} {zq_W_0 : Nat} {zu_M : S32} {zv_M : S64} (S : CallFix p m c code 7 s #[Value.ref b] (kc :: allW) RL) (hE : EN g A s) (hX : va_X b L xs s s.heap) (hbl : b < s.heap.size) (hbA : ¬ A b) (hcs : cells ≤ room_1.cells ∧ slots ≤ room_1.slots) (hc : f_X11_back fu u_T u_W2 (a_B 0) p_W2_0 u_W u_D = some (r, zu_W, zu_D, zq_W_0)) (hm : f_X12_back fu u_M v_M = some (r, zu_M, zv_M)) (hw : WD g A s.heap (cl_X11 g a_T (a_P 0) (a_B 0) (a_B2 0) (a_Z 0) (a_W 0) (a_W2 0) (a_Y 0) (a_D 0) (a_F 0) (a_G 0) u_T ++ (cl_X10 g a_W (a_B 0) (a_N 0) u_W ++ (cl_X0 g a_B (a_L 0) u_B ++ (cl_X3 g a_G u_G ++ (cl_X2 g a_F u_F ++ (cl_X1 g a_D u_D ++ (cl_X9 g a_Y (a_W3 0) u_Y ++ (cl_X10 g a_W3 p_W3_0 (a_N3 0) u_W3 ++ (cl_N g a_N3 v_N3 ++ (cl_X10 g a_W2 p_W2_0 (a_N2 0) u_W2 ++ (cl_N g a_N2 v_N2 ++ (cl_N g a_N v_N ++ (cl_X7 g a_Z (a_K 0) (a_R 0) p_Z_4 u_Z ++ (cl_X4 g a_R (a_K 0) p_R_8 u_R ++ (cl_X8 g a_K (a_P 0) u_K ++ (cl_X0 g a_B2 (a_L2 0) u_B2 ++ (cl_X5 g a_L2 u_L2 v_L2 ++ (cl_X5 g a_L u_L v_L ++ (cl_X6 g a_P u_P ++ (cl_X12 g a_M u_M v_M ++ X)))))))))))))))))))) H locs) (hl : lv_has ls 7 [(0, .ref b), (1, .ref (a_T 0)), (2, .ref (a_M 0)), (3, .ref qo), (4, .int x4)]) (kk : ∀ {H : Heap} {locs : List Loc}, WD g A s.heap (cl_X11 g a_T (a_P 0) (a_B 0) (a_B2 0) (a_Z 0) (a_W 0) (a_W2 0) (a_Y 0) (a_D 0) (a_F 0) (a_G 0) u_T ++ (cl_X10 g a_W zq_W_0 (a_N 0) zu_W ++ (cl_X0 g a_B (a_L 0) u_B ++ (cl_X3 g a_G u_G ++ (cl_X2 g a_F u_F ++ (cl_X1 g a_D zu_D ++ (cl_X9 g a_Y (a_W3 0) u_Y ++ (cl_X10 g a_W3 p_W3_0 (a_N3 0) u_W3 ++ (cl_N g a_N3 v_N3 ++ (cl_X10 g a_W2 p_W2_0 (a_N2 0) u_W2 ++ (cl_N g a_N2 v_N2 ++ (cl_N g a_N v_N ++ (cl_X7 g a_Z (a_K 0) (a_R 0) p_Z_4 u_Z ++ (cl_X4 g a_R (a_K 0) p_R_8 u_R ++ (cl_X8 g a_K (a_P 0) u_K ++ (cl_X0 g a_B2 (a_L2 0) u_B2 ++ (cl_X5 g a_L2 u_L2 v_L2 ++ (cl_X5 g a_L u_L v_L ++ (cl_X6 g a_P u_P ++ (cl_X12 g a_M zu_M zv_M ++ X)))))))))))))))))))) H locs → lv_has ls 7 [(0, .ref b), (1, .ref (a_T 0)), (2, .ref (a_M 0)), (3, .ref qo), (4, .int x4)] → W p l e room_1 s m #[Value.ref b] below meth c H locs cells slots Q (F0 m 1567 ls [])) : W p l e room_1 s m #[Value.ref b] below meth c H locs cells slots Q (F0 m 1529 ls []) := by
  have hx := S.1
  have hb := S.2.1
  refine lv_aload_n hx hb dL_law_1529 rfl (lv_at hl 1 rfl) ?_
  have hw := hw.u5
  have hw := hw.u9
  have hw := hw.u3
  have hw := hw.u3
  refine tx_ci hw (tx_runV S hE hw (c_X11_back hc) lk_L_198 (q0 := 0) rfl rfl rfl hl.1 (rest := []) rfl (Nat.le_of_ble_eq_true rfl) ⟨by decide, by decide⟩ dL_law_1530 hcs) (fun H locs hw => ?_)
  refine lv_aload_n hx hb dL_law_1533 rfl (lv_at hl 2 rfl) ?_
  have hw := hw.u19
  refine tx_ci hw (tx_runV S hE hw (c_X12_back hm) lk_L_201 (q0 := 0) rfl rfl rfl hl.1 (rest := [.int r]) rfl (Nat.le_of_ble_eq_true rfl) ⟨by decide, by decide⟩ dL_law_1534 hcs) (fun H locs hw => ?_)
  refine lv_icmp_eq (tgt := 1567) hx hb dL_law_1537 (by decide) (fun _ => ?_) (fun h => absurd rfl h)
  have hw := hw.u19
  have hw := hw.u19
  have hw := hw.u19
  have hw := hw.u19
  have hw := hw.u19
  have hw := hw.u19
  have hw := hw.u19
  have hw := hw.u19
  have hw := hw.u19
  have hw := hw.u12
  have hw := hw.u19
  have hw := hw.u19
  have hw := hw.u19
  have hw := hw.u16
  have hw := hw.u19
  have hw := hw.u19
  have hw := hw.u19
  have hw := hw.u19
  have hw := hw.u19
  exact kk hw hl
set_option maxHeartbeats 4000000 in
set_option maxRecDepth 100000 in
theorem law_c42 {p : Program} {l : Launch} {e : Env} {s : State} {m : MethodId} {below : List Frame} {meth : Method} {c : Code} {H : Heap} {locs : List Loc} {cells slots : Nat} {Q : State → Prop} {g : GG} {A : Nat → Prop} {X : va_W} {fu : Nat} {b L qo : Nat} {xs : Nat → Int32} {x4 : Int32} {ls : Array Slot} {kc : Cond} {a_T a_W a_B a_G a_F a_D a_Y a_W3 a_N3 a_W2 a_N2 a_N a_Z a_R a_K a_B2 a_L2 a_L a_P a_M : Nat → Nat} {p_W2_0 p_W3_0 p_Z_4 p_R_8 : Nat} {u_T : S32} {u_W : S32} {u_B : S32} {u_G : S32} {u_F : S32} {u_D : S32} {u_Y : S32} {u_W3 : S32} {v_N3 : S64} {u_W2 : S32} {v_N2 : S64} {v_N : S64} {u_Z : S32} {u_R : S32} {u_K : S32} {u_B2 : S32} {u_L2 : S32} {v_L2 : S64} {u_L : S32} {v_L : S64} {u_P : S32} {u_M : S32} {v_M : S64} {r : Int32} {zu_M : S32} (S : CallFix p m c code 7 s #[Value.ref b] (kc :: allW) RL) (hE : EN g A s) (hX : va_X b L xs s s.heap) (hbl : b < s.heap.size) (hbA : ¬ A b) (hcs : cells ≤ room_1.cells ∧ slots ≤ room_1.slots) (hi1 : vp_in (x4 + (1 : Int32)) L) (hc : f_X11_count fu u_T u_B u_L v_L u_W u_F u_D (xs (x4 + (1 : Int32)).toNatClampNeg) = some r) (hm : f_X12_count fu v_M u_M (xs (x4 + (1 : Int32)).toNatClampNeg) = some (r, zu_M)) (hw : WD g A s.heap (cl_X11 g a_T (a_P 0) (a_B 0) (a_B2 0) (a_Z 0) (a_W 0) (a_W2 0) (a_Y 0) (a_D 0) (a_F 0) (a_G 0) u_T ++ (cl_X10 g a_W (a_B 0) (a_N 0) u_W ++ (cl_X0 g a_B (a_L 0) u_B ++ (cl_X3 g a_G u_G ++ (cl_X2 g a_F u_F ++ (cl_X1 g a_D u_D ++ (cl_X9 g a_Y (a_W3 0) u_Y ++ (cl_X10 g a_W3 p_W3_0 (a_N3 0) u_W3 ++ (cl_N g a_N3 v_N3 ++ (cl_X10 g a_W2 p_W2_0 (a_N2 0) u_W2 ++ (cl_N g a_N2 v_N2 ++ (cl_N g a_N v_N ++ (cl_X7 g a_Z (a_K 0) (a_R 0) p_Z_4 u_Z ++ (cl_X4 g a_R (a_K 0) p_R_8 u_R ++ (cl_X8 g a_K (a_P 0) u_K ++ (cl_X0 g a_B2 (a_L2 0) u_B2 ++ (cl_X5 g a_L2 u_L2 v_L2 ++ (cl_X5 g a_L u_L v_L ++ (cl_X6 g a_P u_P ++ (cl_X12 g a_M u_M v_M ++ X)))))))))))))))))))) H locs) (hl : lv_has ls 7 [(0, .ref b), (1, .ref (a_T 0)), (2, .ref (a_M 0)), (3, .ref qo), (4, .int x4)]) (kk : ∀ {H : Heap} {locs : List Loc}, WD g A s.heap (cl_X11 g a_T (a_P 0) (a_B 0) (a_B2 0) (a_Z 0) (a_W 0) (a_W2 0) (a_Y 0) (a_D 0) (a_F 0) (a_G 0) u_T ++ (cl_X10 g a_W (a_B 0) (a_N 0) u_W ++ (cl_X0 g a_B (a_L 0) u_B ++ (cl_X3 g a_G u_G ++ (cl_X2 g a_F u_F ++ (cl_X1 g a_D u_D ++ (cl_X9 g a_Y (a_W3 0) u_Y ++ (cl_X10 g a_W3 p_W3_0 (a_N3 0) u_W3 ++ (cl_N g a_N3 v_N3 ++ (cl_X10 g a_W2 p_W2_0 (a_N2 0) u_W2 ++ (cl_N g a_N2 v_N2 ++ (cl_N g a_N v_N ++ (cl_X7 g a_Z (a_K 0) (a_R 0) p_Z_4 u_Z ++ (cl_X4 g a_R (a_K 0) p_R_8 u_R ++ (cl_X8 g a_K (a_P 0) u_K ++ (cl_X0 g a_B2 (a_L2 0) u_B2 ++ (cl_X5 g a_L2 u_L2 v_L2 ++ (cl_X5 g a_L u_L v_L ++ (cl_X6 g a_P u_P ++ (cl_X12 g a_M zu_M v_M ++ X)))))))))))))))))))) H locs → lv_has ls 7 [(0, .ref b), (1, .ref (a_T 0)), (2, .ref (a_M 0)), (3, .ref qo), (4, .int x4)] → W p l e room_1 s m #[Value.ref b] below meth c H locs cells slots Q (F0 m 1567 ls [])) : W p l e room_1 s m #[Value.ref b] below meth c H locs cells slots Q (F0 m 1542 ls []) := by
  have hx := S.1
  have hb := S.2.1
  refine lv_aload_n hx hb dL_law_1542 rfl (lv_at hl 1 rfl) ?_
  refine lv_aload_n hx hb dL_law_1543 rfl (lv_at hl 0 rfl) ?_
  refine lv_iload hx hb dL_law_1544 (lv_at hl 4 rfl) ?_
  refine lv_iconst (v := 1) hx hb dL_law_1546 (by decide) ?_
  refine lv_iadd hx hb dL_law_1547 ?_
  refine va_sld hx hb hX hbl hbA hw.2.2 hi1 dL_law_1548 ?_
  have hw := hw.u5
  have hw := hw.u5
  have hw := hw.u3
  have hw := hw.u17
  have hw := hw.u5
  have hw := hw.u5
  refine tx_ci hw (tx_runV S hE hw (c_X11_count hc) lk_L_202 (q0 := 0) rfl rfl rfl hl.1 (rest := []) rfl (Nat.le_of_ble_eq_true rfl) ⟨by decide, by decide⟩ dL_law_1549 hcs) (fun H locs hw => ?_)
  refine lv_aload_n hx hb dL_law_1552 rfl (lv_at hl 2 rfl) ?_
  refine lv_aload_n hx hb dL_law_1553 rfl (lv_at hl 0 rfl) ?_
  refine lv_iload hx hb dL_law_1554 (lv_at hl 4 rfl) ?_
  refine lv_iconst (v := 1) hx hb dL_law_1556 (by decide) ?_
  refine lv_iadd hx hb dL_law_1557 ?_
  refine va_sld hx hb hX hbl hbA hw.2.2 hi1 dL_law_1558 ?_
  have hw := hw.u19
  refine tx_ci hw (tx_runV S hE hw (c_X12_count hm) lk_L_205 (q0 := 0) rfl rfl rfl hl.1 (rest := [.int r]) rfl (Nat.le_of_ble_eq_true rfl) ⟨by decide, by decide⟩ dL_law_1559 hcs) (fun H locs hw => ?_)
  refine lv_icmp_eq (tgt := 1567) hx hb dL_law_1562 (by decide) (fun _ => ?_) (fun h => absurd rfl h)
  have hw := hw.u19
  have hw := hw.u4
  have hw := hw.u19
  have hw := hw.u19
  have hw := hw.u19
  have hw := hw.u19
  have hw := hw.u19
  have hw := hw.u19
  have hw := hw.u19
  have hw := hw.u19
  have hw := hw.u19
  have hw := hw.u19
  have hw := hw.u19
  have hw := hw.u18
  have hw := hw.u18
  have hw := hw.u19
  have hw := hw.u18
  have hw := hw.u19
  have hw := hw.u19
  exact kk hw hl
