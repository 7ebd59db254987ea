theorem tx_cmpr (r : Int64) : lg_cmp r r = 0 := by unfold lg_cmp; rw [if_neg (by simp), if_pos rfl]
set_option maxHeartbeats 4000000 in
set_option maxRecDepth 100000 in
theorem law_c0 {p : Program} {l : Launch} {e : Env} {s : State} {m : MethodId} {below : List Frame} {meth : Method} {c : Code} {H : Heap} {locs : List Loc} {cells slots : Nat} {Q : State → Prop} {g : GG} {A : Nat → Prop} {X : va_W} {fu : Nat} {b L qo : Nat} {xs : Nat → Int32} {x4 : Int32} {ls : Array Slot} {kc : Cond} {a_T a_W a_B a_G a_F a_D a_Y a_W3 a_N3 a_W2 a_N2 a_N a_Z a_R a_K a_B2 a_L2 a_L a_P a_M : Nat → Nat} {p_W2_0 p_W3_0 p_Z_4 p_R_8 : Nat} {u_T : S32} {u_W : S32} {u_B : S32} {u_G : S32} {u_F : S32} {u_D : S32} {u_Y : S32} {u_W3 : S32} {v_N3 : S64} {u_W2 : S32} {v_N2 : S64} {v_N : S64} {u_Z : S32} {u_R : S32} {u_K : S32} {u_B2 : S32} {u_L2 : S32} {v_L2 : S64} {u_L : S32} {v_L : S64} {u_P : S32} {u_M : S32} {v_M : S64} {r : Int32} {zu_P : S32} {zu_M : S32} (S : CallFix p m c code 7 s #[Value.ref b] (kc :: allW) RL) (hE : EN g A s) (hX : va_X b L xs s s.heap) (hbl : b < s.heap.size) (hbA : ¬ A b) (hcs : cells ≤ room_1.cells ∧ slots ≤ room_1.slots) (hi1 : vp_in (x4 + (1 : Int32)) L) (hi2 : vp_in (x4 + (2 : Int32)) L) (hi3 : vp_in (x4 + (3 : Int32)) L) (hi4 : vp_in (x4 + (4 : Int32)) L) (hi5 : vp_in (x4 + (5 : Int32)) L) (hc : f_X11_feed fu u_T u_P (xs (x4 + (1 : Int32)).toNatClampNeg) (xs (x4 + (2 : Int32)).toNatClampNeg) (xs (x4 + (3 : Int32)).toNatClampNeg) (xs (x4 + (4 : Int32)).toNatClampNeg) (xs (x4 + (5 : Int32)).toNatClampNeg) = some (r, zu_P)) (hm : f_X12_feed fu v_M u_M (xs (x4 + (1 : Int32)).toNatClampNeg) (xs (x4 + (2 : Int32)).toNatClampNeg) (xs (x4 + (3 : Int32)).toNatClampNeg) (xs (x4 + (4 : Int32)).toNatClampNeg) (xs (x4 + (5 : Int32)).toNatClampNeg) = some (r, zu_M)) (hw : WD g A s.heap (cl_X11 g a_T (a_P 0) (a_B 0) (a_B2 0) (a_Z 0) (a_W 0) (a_W2 0) (a_Y 0) (a_D 0) (a_F 0) (a_G 0) u_T ++ (cl_X10 g a_W (a_B 0) (a_N 0) u_W ++ (cl_X0 g a_B (a_L 0) u_B ++ (cl_X3 g a_G u_G ++ (cl_X2 g a_F u_F ++ (cl_X1 g a_D u_D ++ (cl_X9 g a_Y (a_W3 0) u_Y ++ (cl_X10 g a_W3 p_W3_0 (a_N3 0) u_W3 ++ (cl_N g a_N3 v_N3 ++ (cl_X10 g a_W2 p_W2_0 (a_N2 0) u_W2 ++ (cl_N g a_N2 v_N2 ++ (cl_N g a_N v_N ++ (cl_X7 g a_Z (a_K 0) (a_R 0) p_Z_4 u_Z ++ (cl_X4 g a_R (a_K 0) p_R_8 u_R ++ (cl_X8 g a_K (a_P 0) u_K ++ (cl_X0 g a_B2 (a_L2 0) u_B2 ++ (cl_X5 g a_L2 u_L2 v_L2 ++ (cl_X5 g a_L u_L v_L ++ (cl_X6 g a_P u_P ++ (cl_X12 g a_M u_M v_M ++ X)))))))))))))))))))) H locs) (hl : lv_has ls 7 [(0, .ref b), (1, .ref (a_T 0)), (2, .ref (a_M 0)), (3, .ref qo), (4, .int x4)]) (kk : ∀ {H : Heap} {locs : List Loc}, WD g A s.heap (cl_X11 g a_T (a_P 0) (a_B 0) (a_B2 0) (a_Z 0) (a_W 0) (a_W2 0) (a_Y 0) (a_D 0) (a_F 0) (a_G 0) u_T ++ (cl_X10 g a_W (a_B 0) (a_N 0) u_W ++ (cl_X0 g a_B (a_L 0) u_B ++ (cl_X3 g a_G u_G ++ (cl_X2 g a_F u_F ++ (cl_X1 g a_D u_D ++ (cl_X9 g a_Y (a_W3 0) u_Y ++ (cl_X10 g a_W3 p_W3_0 (a_N3 0) u_W3 ++ (cl_N g a_N3 v_N3 ++ (cl_X10 g a_W2 p_W2_0 (a_N2 0) u_W2 ++ (cl_N g a_N2 v_N2 ++ (cl_N g a_N v_N ++ (cl_X7 g a_Z (a_K 0) (a_R 0) p_Z_4 u_Z ++ (cl_X4 g a_R (a_K 0) p_R_8 u_R ++ (cl_X8 g a_K (a_P 0) u_K ++ (cl_X0 g a_B2 (a_L2 0) u_B2 ++ (cl_X5 g a_L2 u_L2 v_L2 ++ (cl_X5 g a_L u_L v_L ++ (cl_X6 g a_P zu_P ++ (cl_X12 g a_M zu_M v_M ++ X)))))))))))))))))))) H locs → lv_has ls 7 [(0, .ref b), (1, .ref (a_T 0)), (2, .ref (a_M 0)), (3, .ref qo), (4, .int x4)] → W p l e room_1 s m #[Value.ref b] below meth c H locs cells slots Q (F0 m 1567 ls [])) : W p l e room_1 s m #[Value.ref b] below meth c H locs cells slots Q (F0 m 228 ls []) := by
  have hx := S.1
  have hb := S.2.1
  refine lv_aload_n hx hb dL_law_228 rfl (lv_at hl 1 rfl) ?_
  refine lv_aload_n hx hb dL_law_229 rfl (lv_at hl 0 rfl) ?_
  refine lv_iload hx hb dL_law_230 (lv_at hl 4 rfl) ?_
  refine lv_iconst (v := 1) hx hb dL_law_232 (by decide) ?_
  refine lv_iadd hx hb dL_law_233 ?_
  refine va_sld hx hb hX hbl hbA hw.2.2 hi1 dL_law_234 ?_
  refine lv_aload_n hx hb dL_law_235 rfl (lv_at hl 0 rfl) ?_
  refine lv_iload hx hb dL_law_236 (lv_at hl 4 rfl) ?_
  refine lv_iconst (v := 2) hx hb dL_law_238 (by decide) ?_
  refine lv_iadd hx hb dL_law_239 ?_
  refine va_sld hx hb hX hbl hbA hw.2.2 hi2 dL_law_240 ?_
  refine lv_aload_n hx hb dL_law_241 rfl (lv_at hl 0 rfl) ?_
  refine lv_iload hx hb dL_law_242 (lv_at hl 4 rfl) ?_
  refine lv_iconst (v := 3) hx hb dL_law_244 (by decide) ?_
  refine lv_iadd hx hb dL_law_245 ?_
  refine va_sld hx hb hX hbl hbA hw.2.2 hi3 dL_law_246 ?_
  refine lv_aload_n hx hb dL_law_247 rfl (lv_at hl 0 rfl) ?_
  refine lv_iload hx hb dL_law_248 (lv_at hl 4 rfl) ?_
  refine lv_iconst (v := 4) hx hb dL_law_250 (by decide) ?_
  refine lv_iadd hx hb dL_law_251 ?_
  refine va_sld hx hb hX hbl hbA hw.2.2 hi4 dL_law_252 ?_
  refine lv_aload_n hx hb dL_law_253 rfl (lv_at hl 0 rfl) ?_
  refine lv_iload hx hb dL_law_254 (lv_at hl 4 rfl) ?_
  refine lv_iconst (v := 5) hx hb dL_law_256 (by decide) ?_
  refine lv_iadd hx hb dL_law_257 ?_
  refine va_sld hx hb hX hbl hbA hw.2.2 hi5 dL_law_258 ?_
  have hw := hw.u18
  have hw := hw.u1
  refine tx_ci hw (tx_runV S hE hw (c_X11_feed hc) lk_L_21 (q0 := 0) rfl rfl rfl hl.1 (rest := []) rfl (Nat.le_of_ble_eq_true rfl) ⟨by decide, by decide⟩ dL_law_259 hcs) (fun H locs hw => ?_)
  refine lv_aload_n hx hb dL_law_262 rfl (lv_at hl 2 rfl) ?_
  refine lv_aload_n hx hb dL_law_263 rfl (lv_at hl 0 rfl) ?_
  refine lv_iload hx hb dL_law_264 (lv_at hl 4 rfl) ?_
  refine lv_iconst (v := 1) hx hb dL_law_266 (by decide) ?_
  refine lv_iadd hx hb dL_law_267 ?_
  refine va_sld hx hb hX hbl hbA hw.2.2 hi1 dL_law_268 ?_
  refine lv_aload_n hx hb dL_law_269 rfl (lv_at hl 0 rfl) ?_
  refine lv_iload hx hb dL_law_270 (lv_at hl 4 rfl) ?_
  refine lv_iconst (v := 2) hx hb dL_law_272 (by decide) ?_
  refine lv_iadd hx hb dL_law_273 ?_
  refine va_sld hx hb hX hbl hbA hw.2.2 hi2 dL_law_274 ?_
  refine lv_aload_n hx hb dL_law_275 rfl (lv_at hl 0 rfl) ?_
  refine lv_iload hx hb dL_law_276 (lv_at hl 4 rfl) ?_
  refine lv_iconst (v := 3) hx hb dL_law_278 (by decide) ?_
  refine lv_iadd hx hb dL_law_279 ?_
  refine va_sld hx hb hX hbl hbA hw.2.2 hi3 dL_law_280 ?_
  refine lv_aload_n hx hb dL_law_281 rfl (lv_at hl 0 rfl) ?_
  refine lv_iload hx hb dL_law_282 (lv_at hl 4 rfl) ?_
  refine lv_iconst (v := 4) hx hb dL_law_284 (by decide) ?_
  refine lv_iadd hx hb dL_law_285 ?_
  refine va_sld hx hb hX hbl hbA hw.2.2 hi4 dL_law_286 ?_
  refine lv_aload_n hx hb dL_law_287 rfl (lv_at hl 0 rfl) ?_
  refine lv_iload hx hb dL_law_288 (lv_at hl 4 rfl) ?_
  refine lv_iconst (v := 5) hx hb dL_law_290 (by decide) ?_
  refine lv_iadd hx hb dL_law_291 ?_
  refine va_sld hx hb hX hbl hbA hw.2.2 hi5 dL_law_292 ?_
  have hw := hw.u19
  refine tx_ci hw (tx_runV S hE hw (c_X12_feed hm) lk_L_25 (q0 := 0) rfl rfl rfl hl.1 (rest := [.int r]) rfl (Nat.le_of_ble_eq_true rfl) ⟨by decide, by decide⟩ dL_law_293 hcs) (fun H locs hw => ?_)
  refine lv_icmp_eq (tgt := 1567) hx hb dL_law_296 (by decide) (fun _ => ?_) (fun h => absurd rfl h)
  have hw := hw.u2
  have hw := hw.u19
  have hw := hw.u19
  have hw := hw.u19
  have hw := hw.u19
  have hw := hw.u19
  have hw := hw.u19
  have hw := hw.u19
  have hw := hw.u19
  have hw := hw.u19
  have hw := hw.u19
  have hw := hw.u19
  have hw := hw.u19
  have hw := hw.u19
  have hw := hw.u19
  have hw := hw.u19
  have hw := hw.u19
  have hw := hw.u19
  have hw := hw.u19
  exact kk hw hl
set_option maxHeartbeats 4000000 in
set_option maxRecDepth 100000 in
theorem law_c1 {p : Program} {l : Launch} {e : Env} {s : State} {m : MethodId} {below : List Frame} {meth : Method} {c : Code} {H : Heap} {locs : List Loc} {cells slots : Nat} {Q : State → Prop} {g : GG} {A : Nat → Prop} {X : va_W} {fu : Nat} {b L qo : Nat} {xs : Nat → Int32} {x4 : Int32} {ls : Array Slot} {kc : Cond} {a_T a_W a_B a_G a_F a_D a_Y a_W3 a_N3 a_W2 a_N2 a_N a_Z a_R a_K a_B2 a_L2 a_L a_P a_M : Nat → Nat} {p_W2_0 p_W3_0 p_Z_4 p_R_8 : Nat} {u_T : S32} {u_W : S32} {u_B : S32} {u_G : S32} {u_F : S32} {u_D : S32} {u_Y : S32} {u_W3 : S32} {v_N3 : S64} {u_W2 : S32} {v_N2 : S64} {v_N : S64} {u_Z : S32} {u_R : S32} {u_K : S32} {u_B2 : S32} {u_L2 : S32} {v_L2 : S64} {u_L : S32} {v_L : S64} {u_P : S32} {u_M : S32} {v_M : S64} {r : Int32} {zu_T : S32} {zu_P : S32} {zu_Z : S32} {zu_B2 : S32} {zu_L2 : S32} {zu_K : S32} {zu_R : S32} {zu_W : S32} {zu_F : S32} {zu_D : S32} {zq_R_8 : Nat} {zq_T_1 : Nat} {zq_T_2 : Nat} {zq_W_0 : Nat} {zq_Z_4 : Nat} {zu_M : S32} {zv_M : S64} (S : CallFix p m c code 7 s #[Value.ref b] (kc :: allW) RL) (hE : EN g A s) (hX : va_X b L xs s s.heap) (hbl : b < s.heap.size) (hbA : ¬ A b) (hcs : cells ≤ room_1.cells ∧ slots ≤ room_1.slots) (hi1 : vp_in (x4 + (1 : Int32)) L) (hc : f_X11_text fu v_L2 p_R_8 (a_B 0) p_Z_4 (a_B2 0) (a_L2 0) u_T u_P u_Z u_B2 u_L2 u_K u_R u_W u_F u_D (xs (x4 + (1 : Int32)).toNatClampNeg) = some (r, zu_T, zu_P, zu_Z, zu_B2, zu_L2, zu_K, zu_R, zu_W, zu_F, zu_D, zq_R_8, zq_T_1, zq_T_2, zq_W_0, zq_Z_4)) (hm : f_X12_text fu u_M v_M (xs (x4 + (1 : Int32)).toNatClampNeg) = some (r, zu_M, zv_M)) (hw : WD g A s.heap (cl_X11 g a_T (a_P 0) (a_B 0) (a_B2 0) (a_Z 0) (a_W 0) (a_W2 0) (a_Y 0) (a_D 0) (a_F 0) (a_G 0) u_T ++ (cl_X10 g a_W (a_B 0) (a_N 0) u_W ++ (cl_X0 g a_B (a_L 0) u_B ++ (cl_X3 g a_G u_G ++ (cl_X2 g a_F u_F ++ (cl_X1 g a_D u_D ++ (cl_X9 g a_Y (a_W3 0) u_Y ++ (cl_X10 g a_W3 p_W3_0 (a_N3 0) u_W3 ++ (cl_N g a_N3 v_N3 ++ (cl_X10 g a_W2 p_W2_0 (a_N2 0) u_W2 ++ (cl_N g a_N2 v_N2 ++ (cl_N g a_N v_N ++ (cl_X7 g a_Z (a_K 0) (a_R 0) p_Z_4 u_Z ++ (cl_X4 g a_R (a_K 0) p_R_8 u_R ++ (cl_X8 g a_K (a_P 0) u_K ++ (cl_X0 g a_B2 (a_L2 0) u_B2 ++ (cl_X5 g a_L2 u_L2 v_L2 ++ (cl_X5 g a_L u_L v_L ++ (cl_X6 g a_P u_P ++ (cl_X12 g a_M u_M v_M ++ X)))))))))))))))))))) H locs) (hl : lv_has ls 7 [(0, .ref b), (1, .ref (a_T 0)), (2, .ref (a_M 0)), (3, .ref qo), (4, .int x4)]) (kk : ∀ {H : Heap} {locs : List Loc}, WD g A s.heap (cl_X11 g a_T (a_P 0) zq_T_1 zq_T_2 (a_Z 0) (a_W 0) (a_W2 0) (a_Y 0) (a_D 0) (a_F 0) (a_G 0) zu_T ++ (cl_X10 g a_W zq_W_0 (a_N 0) zu_W ++ (cl_X0 g a_B (a_L 0) u_B ++ (cl_X3 g a_G u_G ++ (cl_X2 g a_F zu_F ++ (cl_X1 g a_D zu_D ++ (cl_X9 g a_Y (a_W3 0) u_Y ++ (cl_X10 g a_W3 p_W3_0 (a_N3 0) u_W3 ++ (cl_N g a_N3 v_N3 ++ (cl_X10 g a_W2 p_W2_0 (a_N2 0) u_W2 ++ (cl_N g a_N2 v_N2 ++ (cl_N g a_N v_N ++ (cl_X7 g a_Z (a_K 0) (a_R 0) zq_Z_4 zu_Z ++ (cl_X4 g a_R (a_K 0) zq_R_8 zu_R ++ (cl_X8 g a_K (a_P 0) zu_K ++ (cl_X0 g a_B2 (a_L2 0) zu_B2 ++ (cl_X5 g a_L2 zu_L2 v_L2 ++ (cl_X5 g a_L u_L v_L ++ (cl_X6 g a_P zu_P ++ (cl_X12 g a_M zu_M zv_M ++ X)))))))))))))))))))) H locs → lv_has ls 7 [(0, .ref b), (1, .ref (a_T 0)), (2, .ref (a_M 0)), (3, .ref qo), (4, .int x4)] → W p l e room_1 s m #[Value.ref b] below meth c H locs cells slots Q (F0 m 1567 ls [])) : W p l e room_1 s m #[Value.ref b] below meth c H locs cells slots Q (F0 m 301 ls []) := by
  have hx := S.1
  have hb := S.2.1
  refine lv_aload_n hx hb dL_law_301 rfl (lv_at hl 1 rfl) ?_
  refine lv_aload_n hx hb dL_law_302 rfl (lv_at hl 0 rfl) ?_
  refine lv_iload hx hb dL_law_303 (lv_at hl 4 rfl) ?_
  refine lv_iconst (v := 1) hx hb dL_law_305 (by decide) ?_
  refine lv_iadd hx hb dL_law_306 ?_
  refine va_sld hx hb hX hbl hbA hw.2.2 hi1 dL_law_307 ?_
  have hw := hw.u5
  have hw := hw.u5
  have hw := hw.u3
  have hw := hw.u13
  have hw := hw.u14
  have hw := hw.u16
  have hw := hw.u16
  have hw := hw.u16
  have hw := hw.u18
  have hw := hw.u9
  refine tx_ci hw (tx_runV S hE hw (c_X11_text hc) lk_L_26 (q0 := 0) rfl rfl rfl hl.1 (rest := []) rfl (Nat.le_of_ble_eq_true rfl) ⟨by decide, by decide⟩ dL_law_308 hcs) (fun H locs hw => ?_)
  refine lv_aload_n hx hb dL_law_311 rfl (lv_at hl 2 rfl) ?_
  refine lv_aload_n hx hb dL_law_312 rfl (lv_at hl 0 rfl) ?_
  refine lv_iload hx hb dL_law_313 (lv_at hl 4 rfl) ?_
  refine lv_iconst (v := 1) hx hb dL_law_315 (by decide) ?_
  refine lv_iadd hx hb dL_law_316 ?_
  refine va_sld hx hb hX hbl hbA hw.2.2 hi1 dL_law_317 ?_
  have hw := hw.u19
  refine tx_ci hw (tx_runV S hE hw (c_X12_text hm) lk_L_30 (q0 := 0) rfl rfl rfl hl.1 (rest := [.int r]) rfl (Nat.le_of_ble_eq_true rfl) ⟨by decide, by decide⟩ dL_law_318 hcs) (fun H locs hw => ?_)
  refine lv_icmp_eq (tgt := 1567) hx hb dL_law_321 (by decide) (fun _ => ?_) (fun h => absurd rfl h)
  have hw := hw.u2
  have hw := hw.u19
  have hw := hw.u6
  have hw := hw.u6
  have hw := hw.u7
  have hw := hw.u8
  have hw := hw.u8
  have hw := hw.u19
  have hw := hw.u19
  have hw := hw.u19
  have hw := hw.u19
  have hw := hw.u19
  have hw := hw.u19
  have hw := hw.u17
  have hw := hw.u17
  have hw := hw.u19
  have hw := hw.u19
  have hw := hw.u19
  have hw := hw.u19
  exact kk hw hl
set_option maxHeartbeats 4000000 in
set_option maxRecDepth 100000 in
theorem law_c2 {p : Program} {l : Launch} {e : Env} {s : State} {m : MethodId} {below : List Frame} {meth : Method} {c : Code} {H : Heap} {locs : List Loc} {cells slots : Nat} {Q : State → Prop} {g : GG} {A : Nat → Prop} {X : va_W} {fu : Nat} {b L qo : Nat} {xs : Nat → Int32} {x4 : Int32} {ls : Array Slot} {kc : Cond} {a_T a_W a_B a_G a_F a_D a_Y a_W3 a_N3 a_W2 a_N2 a_N a_Z a_R a_K a_B2 a_L2 a_L a_P a_M : Nat → Nat} {p_W2_0 p_W3_0 p_Z_4 p_R_8 : Nat} {u_T : S32} {u_W : S32} {u_B : S32} {u_G : S32} {u_F : S32} {u_D : S32} {u_Y : S32} {u_W3 : S32} {v_N3 : S64} {u_W2 : S32} {v_N2 : S64} {v_N : S64} {u_Z : S32} {u_R : S32} {u_K : S32} {u_B2 : S32} {u_L2 : S32} {v_L2 : S64} {u_L : S32} {v_L : S64} {u_P : S32} {u_M : S32} {v_M : S64} {r : Int32} {zu_M : S32} (S : CallFix p m c code 7 s #[Value.ref b] (kc :: allW) RL) (hE : EN g A s) (hX : va_X b L xs s s.heap) (hbl : b < s.heap.size) (hbA : ¬ A b) (hcs : cells ≤ room_1.cells ∧ slots ≤ room_1.slots) (hi1 : vp_in (x4 + (1 : Int32)) L) (hc : f_X11_fault fu u_T u_Z (xs (x4 + (1 : Int32)).toNatClampNeg) = some r) (hm : f_X12_fault fu v_M u_M (xs (x4 + (1 : Int32)).toNatClampNeg) = some (r, zu_M)) (hw : WD g A s.heap (cl_X11 g a_T (a_P 0) (a_B 0) (a_B2 0) (a_Z 0) (a_W 0) (a_W2 0) (a_Y 0) (a_D 0) (a_F 0) (a_G 0) u_T ++ (cl_X10 g a_W (a_B 0) (a_N 0) u_W ++ (cl_X0 g a_B (a_L 0) u_B ++ (cl_X3 g a_G u_G ++ (cl_X2 g a_F u_F ++ (cl_X1 g a_D u_D ++ (cl_X9 g a_Y (a_W3 0) u_Y ++ (cl_X10 g a_W3 p_W3_0 (a_N3 0) u_W3 ++ (cl_N g a_N3 v_N3 ++ (cl_X10 g a_W2 p_W2_0 (a_N2 0) u_W2 ++ (cl_N g a_N2 v_N2 ++ (cl_N g a_N v_N ++ (cl_X7 g a_Z (a_K 0) (a_R 0) p_Z_4 u_Z ++ (cl_X4 g a_R (a_K 0) p_R_8 u_R ++ (cl_X8 g a_K (a_P 0) u_K ++ (cl_X0 g a_B2 (a_L2 0) u_B2 ++ (cl_X5 g a_L2 u_L2 v_L2 ++ (cl_X5 g a_L u_L v_L ++ (cl_X6 g a_P u_P ++ (cl_X12 g a_M u_M v_M ++ X)))))))))))))))))))) H locs) (hl : lv_has ls 7 [(0, .ref b), (1, .ref (a_T 0)), (2, .ref (a_M 0)), (3, .ref qo), (4, .int x4)]) (kk : ∀ {H : Heap} {locs : List Loc}, WD g A s.heap (cl_X11 g a_T (a_P 0) (a_B 0) (a_B2 0) (a_Z 0) (a_W 0) (a_W2 0) (a_Y 0) (a_D 0) (a_F 0) (a_G 0) u_T ++ (cl_X10 g a_W (a_B 0) (a_N 0) u_W ++ (cl_X0 g a_B (a_L 0) u_B ++ (cl_X3 g a_G u_G ++ (cl_X2 g a_F u_F ++ (cl_X1 g a_D u_D ++ (cl_X9 g a_Y (a_W3 0) u_Y ++ (cl_X10 g a_W3 p_W3_0 (a_N3 0) u_W3 ++ (cl_N g a_N3 v_N3 ++ (cl_X10 g a_W2 p_W2_0 (a_N2 0) u_W2 ++ (cl_N g a_N2 v_N2 ++ (cl_N g a_N v_N ++ (cl_X7 g a_Z (a_K 0) (a_R 0) p_Z_4 u_Z ++ (cl_X4 g a_R (a_K 0) p_R_8 u_R ++ (cl_X8 g a_K (a_P 0) u_K ++ (cl_X0 g a_B2 (a_L2 0) u_B2 ++ (cl_X5 g a_L2 u_L2 v_L2 ++ (cl_X5 g a_L u_L v_L ++ (cl_X6 g a_P u_P ++ (cl_X12 g a_M zu_M v_M ++ X)))))))))))))))))))) H locs → lv_has ls 7 [(0, .ref b), (1, .ref (a_T 0)), (2, .ref (a_M 0)), (3, .ref qo), (4, .int x4)] → W p l e room_1 s m #[Value.ref b] below meth c H locs cells slots Q (F0 m 1567 ls [])) : W p l e room_1 s m #[Value.ref b] below meth c H locs cells slots Q (F0 m 326 ls []) := by
  have hx := S.1
  have hb := S.2.1
  refine lv_aload_n hx hb dL_law_326 rfl (lv_at hl 1 rfl) ?_
  refine lv_aload_n hx hb dL_law_327 rfl (lv_at hl 0 rfl) ?_
  refine lv_iload hx hb dL_law_328 (lv_at hl 4 rfl) ?_
  refine lv_iconst (v := 1) hx hb dL_law_330 (by decide) ?_
  refine lv_iadd hx hb dL_law_331 ?_
  refine va_sld hx hb hX hbl hbA hw.2.2 hi1 dL_law_332 ?_
  have hw := hw.u12
  have hw := hw.u1
  refine tx_ci hw (tx_runV S hE hw (c_X11_fault hc) lk_L_31 (q0 := 0) rfl rfl rfl hl.1 (rest := []) rfl (Nat.le_of_ble_eq_true rfl) ⟨by decide, by decide⟩ dL_law_333 hcs) (fun H locs hw => ?_)
  refine lv_aload_n hx hb dL_law_336 rfl (lv_at hl 2 rfl) ?_
  refine lv_aload_n hx hb dL_law_337 rfl (lv_at hl 0 rfl) ?_
  refine lv_iload hx hb dL_law_338 (lv_at hl 4 rfl) ?_
  refine lv_iconst (v := 1) hx hb dL_law_340 (by decide) ?_
  refine lv_iadd hx hb dL_law_341 ?_
  refine va_sld hx hb hX hbl hbA hw.2.2 hi1 dL_law_342 ?_
  have hw := hw.u19
  refine tx_ci hw (tx_runV S hE hw (c_X12_fault hm) lk_L_34 (q0 := 0) rfl rfl rfl hl.1 (rest := [.int r]) rfl (Nat.le_of_ble_eq_true rfl) ⟨by decide, by decide⟩ dL_law_343 hcs) (fun H locs hw => ?_)
  refine lv_icmp_eq (tgt := 1567) hx hb dL_law_346 (by decide) (fun _ => ?_) (fun h => absurd rfl h)
  have hw := hw.u19
  have hw := hw.u19
  have hw := hw.u19
  have hw := hw.u19
  have hw := hw.u19
  have hw := hw.u19
  have hw := hw.u8
  have hw := hw.u19
  have hw := hw.u19
  have hw := hw.u19
  have hw := hw.u19
  have hw := hw.u19
  have hw := hw.u19
  have hw := hw.u19
  have hw := hw.u19
  have hw := hw.u19
  have hw := hw.u19
  have hw := hw.u19
  have hw := hw.u19
  exact kk hw hl
set_option maxHeartbeats 4000000 in
set_option maxRecDepth 100000 in
theorem law_c3 {p : Program} {l : Launch} {e : Env} {s : State} {m : MethodId} {below : List Frame} {meth : Method} {c : Code} {H : Heap} {locs : List Loc} {cells slots : Nat} {Q : State → Prop} {g : GG} {A : Nat → Prop} {X : va_W} {fu : Nat} {b L qo : Nat} {xs : Nat → Int32} {x4 : Int32} {ls : Array Slot} {kc : Cond} {a_T a_W a_B a_G a_F a_D a_Y a_W3 a_N3 a_W2 a_N2 a_N a_Z a_R a_K a_B2 a_L2 a_L a_P a_M : Nat → Nat} {p_W2_0 p_W3_0 p_Z_4 p_R_8 : Nat} {u_T : S32} {u_W : S32} {u_B : S32} {u_G : S32} {u_F : S32} {u_D : S32} {u_Y : S32} {u_W3 : S32} {v_N3 : S64} {u_W2 : S32} {v_N2 : S64} {v_N : S64} {u_Z : S32} {u_R : S32} {u_K : S32} {u_B2 : S32} {u_L2 : S32} {v_L2 : S64} {u_L : S32} {v_L : S64} {u_P : S32} {u_M : S32} {v_M : S64} {r : Int32} {zu_M : S32} (S : CallFix p m c code 7 s #[Value.ref b] (kc :: allW) RL) (hE : EN g A s) (hX : va_X b L xs s s.heap) (hbl : b < s.heap.size) (hbA : ¬ A b) (hcs : cells ≤ room_1.cells ∧ slots ≤ room_1.slots) (hi1 : vp_in (x4 + (1 : Int32)) L) (hi2 : vp_in (x4 + (2 : Int32)) L) (hc : f_X11_named fu u_T u_B (xs (x4 + (1 : Int32)).toNatClampNeg) (xs (x4 + (2 : Int32)).toNatClampNeg) = some r) (hm : f_X12_named fu v_M u_M (xs (x4 + (1 : Int32)).toNatClampNeg) (xs (x4 + (2 : Int32)).toNatClampNeg) = some (r, zu_M)) (hw : WD g A s.heap (cl_X11 g a_T (a_P 0) (a_B 0) (a_B2 0) (a_Z 0) (a_W 0) (a_W2 0) (a_Y 0) (a_D 0) (a_F 0) (a_G 0) u_T ++ (cl_X10 g a_W (a_B 0) (a_N 0) u_W ++ (cl_X0 g a_B (a_L 0) u_B ++ (cl_X3 g a_G u_G ++ (cl_X2 g a_F u_F ++ (cl_X1 g a_D u_D ++ (cl_X9 g a_Y (a_W3 0) u_Y ++ (cl_X10 g a_W3 p_W3_0 (a_N3 0) u_W3 ++ (cl_N g a_N3 v_N3 ++ (cl_X10 g a_W2 p_W2_0 (a_N2 0) u_W2 ++ (cl_N g a_N2 v_N2 ++ (cl_N g a_N v_N ++ (cl_X7 g a_Z (a_K 0) (a_R 0) p_Z_4 u_Z ++ (cl_X4 g a_R (a_K 0) p_R_8 u_R ++ (cl_X8 g a_K (a_P 0) u_K ++ (cl_X0 g a_B2 (a_L2 0) u_B2 ++ (cl_X5 g a_L2 u_L2 v_L2 ++ (cl_X5 g a_L u_L v_L ++ (cl_X6 g a_P u_P ++ (cl_X12 g a_M u_M v_M ++ X)))))))))))))))))))) H locs) (hl : lv_has ls 7 [(0, .ref b), (1, .ref (a_T 0)), (2, .ref (a_M 0)), (3, .ref qo), (4, .int x4)]) (kk : ∀ {H : Heap} {locs : List Loc}, WD g A s.heap (cl_X11 g a_T (a_P 0) (a_B 0) (a_B2 0) (a_Z 0) (a_W 0) (a_W2 0) (a_Y 0) (a_D 0) (a_F 0) (a_G 0) u_T ++ (cl_X10 g a_W (a_B 0) (a_N 0) u_W ++ (cl_X0 g a_B (a_L 0) u_B ++ (cl_X3 g a_G u_G ++ (cl_X2 g a_F u_F ++ (cl_X1 g a_D u_D ++ (cl_X9 g a_Y (a_W3 0) u_Y ++ (cl_X10 g a_W3 p_W3_0 (a_N3 0) u_W3 ++ (cl_N g a_N3 v_N3 ++ (cl_X10 g a_W2 p_W2_0 (a_N2 0) u_W2 ++ (cl_N g a_N2 v_N2 ++ (cl_N g a_N v_N ++ (cl_X7 g a_Z (a_K 0) (a_R 0) p_Z_4 u_Z ++ (cl_X4 g a_R (a_K 0) p_R_8 u_R ++ (cl_X8 g a_K (a_P 0) u_K ++ (cl_X0 g a_B2 (a_L2 0) u_B2 ++ (cl_X5 g a_L2 u_L2 v_L2 ++ (cl_X5 g a_L u_L v_L ++ (cl_X6 g a_P u_P ++ (cl_X12 g a_M zu_M v_M ++ X)))))))))))))))))))) H locs → lv_has ls 7 [(0, .ref b), (1, .ref (a_T 0)), (2, .ref (a_M 0)), (3, .ref qo), (4, .int x4)] → W p l e room_1 s m #[Value.ref b] below meth c H locs cells slots Q (F0 m 1567 ls [])) : W p l e room_1 s m #[Value.ref b] below meth c H locs cells slots Q (F0 m 351 ls []) := by
  have hx := S.1
  have hb := S.2.1
  refine lv_aload_n hx hb dL_law_351 rfl (lv_at hl 1 rfl) ?_
  refine lv_aload_n hx hb dL_law_352 rfl (lv_at hl 0 rfl) ?_
  refine lv_iload hx hb dL_law_353 (lv_at hl 4 rfl) ?_
  refine lv_iconst (v := 1) hx hb dL_law_355 (by decide) ?_
  refine lv_iadd hx hb dL_law_356 ?_
  refine va_sld hx hb hX hbl hbA hw.2.2 hi1 dL_law_357 ?_
  refine lv_aload_n hx hb dL_law_358 rfl (lv_at hl 0 rfl) ?_
  refine lv_iload hx hb dL_law_359 (lv_at hl 4 rfl) ?_
  refine lv_iconst (v := 2) hx hb dL_law_361 (by decide) ?_
  refine lv_iadd hx hb dL_law_362 ?_
  refine va_sld hx hb hX hbl hbA hw.2.2 hi2 dL_law_363 ?_
  have hw := hw.u2
  have hw := hw.u1
  refine tx_ci hw (tx_runV S hE hw (c_X11_named hc) lk_L_35 (q0 := 0) rfl rfl rfl hl.1 (rest := []) rfl (Nat.le_of_ble_eq_true rfl) ⟨by decide, by decide⟩ dL_law_364 hcs) (fun H locs hw => ?_)
  refine lv_aload_n hx hb dL_law_367 rfl (lv_at hl 2 rfl) ?_
  refine lv_aload_n hx hb dL_law_368 rfl (lv_at hl 0 rfl) ?_
  refine lv_iload hx hb dL_law_369 (lv_at hl 4 rfl) ?_
  refine lv_iconst (v := 1) hx hb dL_law_371 (by decide) ?_
  refine lv_iadd hx hb dL_law_372 ?_
  refine va_sld hx hb hX hbl hbA hw.2.2 hi1 dL_law_373 ?_
  refine lv_aload_n hx hb dL_law_374 rfl (lv_at hl 0 rfl) ?_
  refine lv_iload hx hb dL_law_375 (lv_at hl 4 rfl) ?_
  refine lv_iconst (v := 2) hx hb dL_law_377 (by decide) ?_
  refine lv_iadd hx hb dL_law_378 ?_
  refine va_sld hx hb hX hbl hbA hw.2.2 hi2 dL_law_379 ?_
  have hw := hw.u19
  refine tx_ci hw (tx_runV S hE hw (c_X12_named hm) lk_L_38 (q0 := 0) rfl rfl rfl hl.1 (rest := [.int r]) rfl (Nat.le_of_ble_eq_true rfl) ⟨by decide, by decide⟩ dL_law_380 hcs) (fun H locs hw => ?_)
  refine lv_icmp_eq (tgt := 1567) hx hb dL_law_383 (by decide) (fun _ => ?_) (fun h => absurd rfl h)
  have hw := hw.u19
  have hw := hw.u19
  have hw := hw.u19
  have hw := hw.u19
  have hw := hw.u19
  have hw := hw.u19
  have hw := hw.u19
  have hw := hw.u19
  have hw := hw.u19
  have hw := hw.u19
  have hw := hw.u19
  have hw := hw.u19
  have hw := hw.u19
  have hw := hw.u19
  have hw := hw.u19
  have hw := hw.u19
  have hw := hw.u18
  have hw := hw.u19
  have hw := hw.u19
  exact kk hw hl
set_option maxHeartbeats 4000000 in
set_option maxRecDepth 100000 in
theorem law_c5 {p : Program} {l : Launch} {e : Env} {s : State} {m : MethodId} {below : List Frame} {meth : Method} {c : Code} {H : Heap} {locs : List Loc} {cells slots : Nat} {Q : State → Prop} {g : GG} {A : Nat → Prop} {X : va_W} {fu : Nat} {b L qo : Nat} {xs : Nat → Int32} {x4 : Int32} {ls : Array Slot} {kc : Cond} {a_T a_W a_B a_G a_F a_D a_Y a_W3 a_N3 a_W2 a_N2 a_N a_Z a_R a_K a_B2 a_L2 a_L a_P a_M : Nat → Nat} {p_W2_0 p_W3_0 p_Z_4 p_R_8 : Nat} {u_T : S32} {u_W : S32} {u_B : S32} {u_G : S32} {u_F : S32} {u_D : S32} {u_Y : S32} {u_W3 : S32} {v_N3 : S64} {u_W2 : S32} {v_N2 : S64} {v_N : S64} {u_Z : S32} {u_R : S32} {u_K : S32} {u_B2 : S32} {u_L2 : S32} {v_L2 : S64} {u_L : S32} {v_L : S64} {u_P : S32} {u_M : S32} {v_M : S64} {r : Int32} {zu_M : S32} (S : CallFix p m c code 7 s #[Value.ref b] (kc :: allW) RL) (hE : EN g A s) (hX : va_X b L xs s s.heap) (hbl : b < s.heap.size) (hbA : ¬ A b) (hcs : cells ≤ room_1.cells ∧ slots ≤ room_1.slots) (hi1 : vp_in (x4 + (1 : Int32)) L) (hi2 : vp_in (x4 + (2 : Int32)) L) (hc : f_X11_man fu u_T u_B u_W (xs (x4 + (1 : Int32)).toNatClampNeg) (xs (x4 + (2 : Int32)).toNatClampNeg) = some r) (hm : f_X12_man fu v_M u_M (xs (x4 + (1 : Int32)).toNatClampNeg) (xs (x4 + (2 : Int32)).toNatClampNeg) = some (r, zu_M)) (hw : WD g A s.heap (cl_X11 g a_T (a_P 0) (a_B 0) (a_B2 0) (a_Z 0) (a_W 0) (a_W2 0) (a_Y 0) (a_D 0) (a_F 0) (a_G 0) u_T ++ (cl_X10 g a_W (a_B 0) (a_N 0) u_W ++ (cl_X0 g a_B (a_L 0) u_B ++ (cl_X3 g a_G u_G ++ (cl_X2 g a_F u_F ++ (cl_X1 g a_D u_D ++ (cl_X9 g a_Y (a_W3 0) u_Y ++ (cl_X10 g a_W3 p_W3_0 (a_N3 0) u_W3 ++ (cl_N g a_N3 v_N3 ++ (cl_X10 g a_W2 p_W2_0 (a_N2 0) u_W2 ++ (cl_N g a_N2 v_N2 ++ (cl_N g a_N v_N ++ (cl_X7 g a_Z (a_K 0) (a_R 0) p_Z_4 u_Z ++ (cl_X4 g a_R (a_K 0) p_R_8 u_R ++ (cl_X8 g a_K (a_P 0) u_K ++ (cl_X0 g a_B2 (a_L2 0) u_B2 ++ (cl_X5 g a_L2 u_L2 v_L2 ++ (cl_X5 g a_L u_L v_L ++ (cl_X6 g a_P u_P ++ (cl_X12 g a_M u_M v_M ++ X)))))))))))))))))))) H locs) (hl : lv_has ls 7 [(0, .ref b), (1, .ref (a_T 0)), (2, .ref (a_M 0)), (3, .ref qo), (4, .int x4)]) (kk : ∀ {H : Heap} {locs : List Loc}, WD g A s.heap (cl_X11 g a_T (a_P 0) (a_B 0) (a_B2 0) (a_Z 0) (a_W 0) (a_W2 0) (a_Y 0) (a_D 0) (a_F 0) (a_G 0) u_T ++ (cl_X10 g a_W (a_B 0) (a_N 0) u_W ++ (cl_X0 g a_B (a_L 0) u_B ++ (cl_X3 g a_G u_G ++ (cl_X2 g a_F u_F ++ (cl_X1 g a_D u_D ++ (cl_X9 g a_Y (a_W3 0) u_Y ++ (cl_X10 g a_W3 p_W3_0 (a_N3 0) u_W3 ++ (cl_N g a_N3 v_N3 ++ (cl_X10 g a_W2 p_W2_0 (a_N2 0) u_W2 ++ (cl_N g a_N2 v_N2 ++ (cl_N g a_N v_N ++ (cl_X7 g a_Z (a_K 0) (a_R 0) p_Z_4 u_Z ++ (cl_X4 g a_R (a_K 0) p_R_8 u_R ++ (cl_X8 g a_K (a_P 0) u_K ++ (cl_X0 g a_B2 (a_L2 0) u_B2 ++ (cl_X5 g a_L2 u_L2 v_L2 ++ (cl_X5 g a_L u_L v_L ++ (cl_X6 g a_P u_P ++ (cl_X12 g a_M zu_M v_M ++ X)))))))))))))))))))) H locs → lv_has ls 7 [(0, .ref b), (1, .ref (a_T 0)), (2, .ref (a_M 0)), (3, .ref qo), (4, .int x4)] → W p l e room_1 s m #[Value.ref b] below meth c H locs cells slots Q (F0 m 1567 ls [])) : W p l e room_1 s m #[Value.ref b] below meth c H locs cells slots Q (F0 m 456 ls []) := by
  have hx := S.1
  have hb := S.2.1
  refine lv_aload_n hx hb dL_law_456 rfl (lv_at hl 1 rfl) ?_
  refine lv_aload_n hx hb dL_law_457 rfl (lv_at hl 0 rfl) ?_
  refine lv_iload hx hb dL_law_458 (lv_at hl 4 rfl) ?_
  refine lv_iconst (v := 1) hx hb dL_law_460 (by decide) ?_
  refine lv_iadd hx hb dL_law_461 ?_
  refine va_sld hx hb hX hbl hbA hw.2.2 hi1 dL_law_462 ?_
  refine lv_aload_n hx hb dL_law_463 rfl (lv_at hl 0 rfl) ?_
  refine lv_iload hx hb dL_law_464 (lv_at hl 4 rfl) ?_
  refine lv_iconst (v := 2) hx hb dL_law_466 (by decide) ?_
  refine lv_iadd hx hb dL_law_467 ?_
  refine va_sld hx hb hX hbl hbA hw.2.2 hi2 dL_law_468 ?_
  have hw := hw.u1
  have hw := hw.u2
  have hw := hw.u2
  refine tx_ci hw (tx_runV S hE hw (c_X11_man hc) lk_L_49 (q0 := 0) rfl rfl rfl hl.1 (rest := []) rfl (Nat.le_of_ble_eq_true rfl) ⟨by decide, by decide⟩ dL_law_469 hcs) (fun H locs hw => ?_)
  refine lv_aload_n hx hb dL_law_472 rfl (lv_at hl 2 rfl) ?_
  refine lv_aload_n hx hb dL_law_473 rfl (lv_at hl 0 rfl) ?_
  refine lv_iload hx hb dL_law_474 (lv_at hl 4 rfl) ?_
  refine lv_iconst (v := 1) hx hb dL_law_476 (by decide) ?_
  refine lv_iadd hx hb dL_law_477 ?_
  refine va_sld hx hb hX hbl hbA hw.2.2 hi1 dL_law_478 ?_
  refine lv_aload_n hx hb dL_law_479 rfl (lv_at hl 0 rfl) ?_
  refine lv_iload hx hb dL_law_480 (lv_at hl 4 rfl) ?_
  refine lv_iconst (v := 2) hx hb dL_law_482 (by decide) ?_
  refine lv_iadd hx hb dL_law_483 ?_
  refine va_sld hx hb hX hbl hbA hw.2.2 hi2 dL_law_484 ?_
  have hw := hw.u19
  refine tx_ci hw (tx_runV S hE hw (c_X12_man hm) lk_L_52 (q0 := 0) rfl rfl rfl hl.1 (rest := [.int r]) rfl (Nat.le_of_ble_eq_true rfl) ⟨by decide, by decide⟩ dL_law_485 hcs) (fun H locs hw => ?_)
  refine lv_icmp_eq (tgt := 1567) hx hb dL_law_488 (by decide) (fun _ => ?_) (fun h => absurd rfl h)
  have hw := hw.u19
  have hw := hw.u19
  have hw := hw.u19
  have hw := hw.u19
  have hw := hw.u19
  have hw := hw.u19
  have hw := hw.u19
  have hw := hw.u19
  have hw := hw.u19
  have hw := hw.u19
  have hw := hw.u19
  have hw := hw.u19
  have hw := hw.u19
  have hw := hw.u19
  have hw := hw.u19
  have hw := hw.u19
  have hw := hw.u18
  have hw := hw.u19
  have hw := hw.u19
  exact kk hw hl
set_option maxHeartbeats 4000000 in
set_option maxRecDepth 100000 in
theorem law_c6 {p : Program} {l : Launch} {e : Env} {s : State} {m : MethodId} {below : List Frame} {meth : Method} {c : Code} {H : Heap} {locs : List Loc} {cells slots : Nat} {Q : State → Prop} {g : GG} {A : Nat → Prop} {X : va_W} {fu : Nat} {b L qo : Nat} {xs : Nat → Int32} {x4 : Int32} {ls : Array Slot} {kc : Cond} {a_T a_W a_B a_G a_F a_D a_Y a_W3 a_N3 a_W2 a_N2 a_N a_Z a_R a_K a_B2 a_L2 a_L a_P a_M : Nat → Nat} {p_W2_0 p_W3_0 p_Z_4 p_R_8 : Nat} {u_T : S32} {u_W : S32} {u_B : S32} {u_G : S32} {u_F : S32} {u_D : S32} {u_Y : S32} {u_W3 : S32} {v_N3 : S64} {u_W2 : S32} {v_N2 : S64} {v_N : S64} {u_Z : S32} {u_R : S32} {u_K : S32} {u_B2 : S32} {u_L2 : S32} {v_L2 : S64} {u_L : S32} {v_L : S64} {u_P : S32} {u_M : S32} {v_M : S64} {r : Int32} {zu_M : S32} (S : CallFix p m c code 7 s #[Value.ref b] (kc :: allW) RL) (hE : EN g A s) (hX : va_X b L xs s s.heap) (hbl : b < s.heap.size) (hbA : ¬ A b) (hcs : cells ≤ room_1.cells ∧ slots ≤ room_1.slots) (hi1 : vp_in (x4 + (1 : Int32)) L) (hi2 : vp_in (x4 + (2 : Int32)) L) (hc : f_X11_reader fu u_T u_B u_W (xs (x4 + (1 : Int32)).toNatClampNeg) (xs (x4 + (2 : Int32)).toNatClampNeg) = some r) (hm : f_X12_reader fu v_M u_M (xs (x4 + (1 : Int32)).toNatClampNeg) (xs (x4 + (2 : Int32)).toNatClampNeg) = some (r, zu_M)) (hw : WD g A s.heap (cl_X11 g a_T (a_P 0) (a_B 0) (a_B2 0) (a_Z 0) (a_W 0) (a_W2 0) (a_Y 0) (a_D 0) (a_F 0) (a_G 0) u_T ++ (cl_X10 g a_W (a_B 0) (a_N 0) u_W ++ (cl_X0 g a_B (a_L 0) u_B ++ (cl_X3 g a_G u_G ++ (cl_X2 g a_F u_F ++ (cl_X1 g a_D u_D ++ (cl_X9 g a_Y (a_W3 0) u_Y ++ (cl_X10 g a_W3 p_W3_0 (a_N3 0) u_W3 ++ (cl_N g a_N3 v_N3 ++ (cl_X10 g a_W2 p_W2_0 (a_N2 0) u_W2 ++ (cl_N g a_N2 v_N2 ++ (cl_N g a_N v_N ++ (cl_X7 g a_Z (a_K 0) (a_R 0) p_Z_4 u_Z ++ (cl_X4 g a_R (a_K 0) p_R_8 u_R ++ (cl_X8 g a_K (a_P 0) u_K ++ (cl_X0 g a_B2 (a_L2 0) u_B2 ++ (cl_X5 g a_L2 u_L2 v_L2 ++ (cl_X5 g a_L u_L v_L ++ (cl_X6 g a_P u_P ++ (cl_X12 g a_M u_M v_M ++ X)))))))))))))))))))) H locs) (hl : lv_has ls 7 [(0, .ref b), (1, .ref (a_T 0)), (2, .ref (a_M 0)), (3, .ref qo), (4, .int x4)]) (kk : ∀ {H : Heap} {locs : List Loc}, WD g A s.heap (cl_X11 g a_T (a_P 0) (a_B 0) (a_B2 0) (a_Z 0) (a_W 0) (a_W2 0) (a_Y 0) (a_D 0) (a_F 0) (a_G 0) u_T ++ (cl_X10 g a_W (a_B 0) (a_N 0) u_W ++ (cl_X0 g a_B (a_L 0) u_B ++ (cl_X3 g a_G u_G ++ (cl_X2 g a_F u_F ++ (cl_X1 g a_D u_D ++ (cl_X9 g a_Y (a_W3 0) u_Y ++ (cl_X10 g a_W3 p_W3_0 (a_N3 0) u_W3 ++ (cl_N g a_N3 v_N3 ++ (cl_X10 g a_W2 p_W2_0 (a_N2 0) u_W2 ++ (cl_N g a_N2 v_N2 ++ (cl_N g a_N v_N ++ (cl_X7 g a_Z (a_K 0) (a_R 0) p_Z_4 u_Z ++ (cl_X4 g a_R (a_K 0) p_R_8 u_R ++ (cl_X8 g a_K (a_P 0) u_K ++ (cl_X0 g a_B2 (a_L2 0) u_B2 ++ (cl_X5 g a_L2 u_L2 v_L2 ++ (cl_X5 g a_L u_L v_L ++ (cl_X6 g a_P u_P ++ (cl_X12 g a_M zu_M v_M ++ X)))))))))))))))))))) H locs → lv_has ls 7 [(0, .ref b), (1, .ref (a_T 0)), (2, .ref (a_M 0)), (3, .ref qo), (4, .int x4)] → W p l e room_1 s m #[Value.ref b] below meth c H locs cells slots Q (F0 m 1567 ls [])) : W p l e room_1 s m #[Value.ref b] below meth c H locs cells slots Q (F0 m 493 ls []) := by
  have hx := S.1
  have hb := S.2.1
  refine lv_aload_n hx hb dL_law_493 rfl (lv_at hl 1 rfl) ?_
  refine lv_aload_n hx hb dL_law_494 rfl (lv_at hl 0 rfl) ?_
  refine lv_iload hx hb dL_law_495 (lv_at hl 4 rfl) ?_
  refine lv_iconst (v := 1) hx hb dL_law_497 (by decide) ?_
  refine lv_iadd hx hb dL_law_498 ?_
  refine va_sld hx hb hX hbl hbA hw.2.2 hi1 dL_law_499 ?_
  refine lv_aload_n hx hb dL_law_500 rfl (lv_at hl 0 rfl) ?_
  refine lv_iload hx hb dL_law_501 (lv_at hl 4 rfl) ?_
  refine lv_iconst (v := 2) hx hb dL_law_503 (by decide) ?_
  refine lv_iadd hx hb dL_law_504 ?_
  refine va_sld hx hb hX hbl hbA hw.2.2 hi2 dL_law_505 ?_
  have hw := hw.u1
  have hw := hw.u2
  have hw := hw.u2
  refine tx_ci hw (tx_runV S hE hw (c_X11_reader hc) lk_L_53 (q0 := 0) rfl rfl rfl hl.1 (rest := []) rfl (Nat.le_of_ble_eq_true rfl) ⟨by decide, by decide⟩ dL_law_506 hcs) (fun H locs hw => ?_)
  refine lv_aload_n hx hb dL_law_509 rfl (lv_at hl 2 rfl) ?_
  refine lv_aload_n hx hb dL_law_510 rfl (lv_at hl 0 rfl) ?_
  refine lv_iload hx hb dL_law_511 (lv_at hl 4 rfl) ?_
  refine lv_iconst (v := 1) hx hb dL_law_513 (by decide) ?_
  refine lv_iadd hx hb dL_law_514 ?_
  refine va_sld hx hb hX hbl hbA hw.2.2 hi1 dL_law_515 ?_
  refine lv_aload_n hx hb dL_law_516 rfl (lv_at hl 0 rfl) ?_
  refine lv_iload hx hb dL_law_517 (lv_at hl 4 rfl) ?_
  refine lv_iconst (v := 2) hx hb dL_law_519 (by decide) ?_
  refine lv_iadd hx hb dL_law_520 ?_
  refine va_sld hx hb hX hbl hbA hw.2.2 hi2 dL_law_521 ?_
  have hw := hw.u19
  refine tx_ci hw (tx_runV S hE hw (c_X12_reader hm) lk_L_56 (q0 := 0) rfl rfl rfl hl.1 (rest := [.int r]) rfl (Nat.le_of_ble_eq_true rfl) ⟨by decide, by decide⟩ dL_law_522 hcs) (fun H locs hw => ?_)
  refine lv_icmp_eq (tgt := 1567) hx hb dL_law_525 (by decide) (fun _ => ?_) (fun h => absurd rfl h)
  have hw := hw.u19
  have hw := hw.u19
  have hw := hw.u19
  have hw := hw.u19
  have hw := hw.u19
  have hw := hw.u19
  have hw := hw.u19
  have hw := hw.u19
  have hw := hw.u19
  have hw := hw.u19
  have hw := hw.u19
  have hw := hw.u19
  have hw := hw.u19
  have hw := hw.u19
  have hw := hw.u19
  have hw := hw.u19
  have hw := hw.u18
  have hw := hw.u19
  have hw := hw.u19
  exact kk hw hl
set_option maxHeartbeats 4000000 in
set_option maxRecDepth 100000 in
theorem law_c7 {p : Program} {l : Launch} {e : Env} {s : State} {m : MethodId} {below : List Frame} {meth : Method} {c : Code} {H : Heap} {locs : List Loc} {cells slots : Nat} {Q : State → Prop} {g : GG} {A : Nat → Prop} {X : va_W} {fu : Nat} {b L qo : Nat} {xs : Nat → Int32} {x4 : Int32} {ls : Array Slot} {kc : Cond} {a_T a_W a_B a_G a_F a_D a_Y a_W3 a_N3 a_W2 a_N2 a_N a_Z a_R a_K a_B2 a_L2 a_L a_P a_M : Nat → Nat} {p_W2_0 p_W3_0 p_Z_4 p_R_8 : Nat} {u_T : S32} {u_W : S32} {u_B : S32} {u_G : S32} {u_F : S32} {u_D : S32} {u_Y : S32} {u_W3 : S32} {v_N3 : S64} {u_W2 : S32} {v_N2 : S64} {v_N : S64} {u_Z : S32} {u_R : S32} {u_K : S32} {u_B2 : S32} {u_L2 : S32} {v_L2 : S64} {u_L : S32} {v_L : S64} {u_P : S32} {u_M : S32} {v_M : S64} {r : Int64} {zv_N : S64} {zv_L : S64} {zu_M : S32} {zv_M : S64} (S : CallFix p m c code 7 s #[Value.ref b] (kc :: allW) RL) (hE : EN g A s) (hX : va_X b L xs s s.heap) (hbl : b < s.heap.size) (hbA : ¬ A b) (hcs : cells ≤ room_1.cells ∧ slots ≤ room_1.slots) (hi1 : vp_in (x4 + (1 : Int32)) L) (hi2 : vp_in (x4 + (2 : Int32)) L) (hc : f_X11_law fu u_T u_W u_B u_L v_N v_L (xs (x4 + (1 : Int32)).toNatClampNeg) (xs (x4 + (2 : Int32)).toNatClampNeg) = some (r, zv_N, zv_L)) (hm : f_X12_law fu u_M v_M (xs (x4 + (1 : Int32)).toNatClampNeg) (xs (x4 + (2 : Int32)).toNatClampNeg) = some (r, zu_M, zv_M)) (hw : WD g A s.heap (cl_X11 g a_T (a_P 0) (a_B 0) (a_B2 0) (a_Z 0) (a_W 0) (a_W2 0) (a_Y 0) (a_D 0) (a_F 0) (a_G 0) u_T ++ (cl_X10 g a_W (a_B 0) (a_N 0) u_W ++ (cl_X0 g a_B (a_L 0) u_B ++ (cl_X3 g a_G u_G ++ (cl_X2 g a_F u_F ++ (cl_X1 g a_D u_D ++ (cl_X9 g a_Y (a_W3 0) u_Y ++ (cl_X10 g a_W3 p_W3_0 (a_N3 0) u_W3 ++ (cl_N g a_N3 v_N3 ++ (cl_X10 g a_W2 p_W2_0 (a_N2 0) u_W2 ++ (cl_N g a_N2 v_N2 ++ (cl_N g a_N v_N ++ (cl_X7 g a_Z (a_K 0) (a_R 0) p_Z_4 u_Z ++ (cl_X4 g a_R (a_K 0) p_R_8 u_R ++ (cl_X8 g a_K (a_P 0) u_K ++ (cl_X0 g a_B2 (a_L2 0) u_B2 ++ (cl_X5 g a_L2 u_L2 v_L2 ++ (cl_X5 g a_L u_L v_L ++ (cl_X6 g a_P u_P ++ (cl_X12 g a_M u_M v_M ++ X)))))))))))))))))))) H locs) (hl : lv_has ls 7 [(0, .ref b), (1, .ref (a_T 0)), (2, .ref (a_M 0)), (3, .ref qo), (4, .int x4)]) (kk : ∀ {H : Heap} {locs : List Loc}, WD g A s.heap (cl_X11 g a_T (a_P 0) (a_B 0) (a_B2 0) (a_Z 0) (a_W 0) (a_W2 0) (a_Y 0) (a_D 0) (a_F 0) (a_G 0) u_T ++ (cl_X10 g a_W (a_B 0) (a_N 0) u_W ++ (cl_X0 g a_B (a_L 0) u_B ++ (cl_X3 g a_G u_G ++ (cl_X2 g a_F u_F ++ (cl_X1 g a_D u_D ++ (cl_X9 g a_Y (a_W3 0) u_Y ++ (cl_X10 g a_W3 p_W3_0 (a_N3 0) u_W3 ++ (cl_N g a_N3 v_N3 ++ (cl_X10 g a_W2 p_W2_0 (a_N2 0) u_W2 ++ (cl_N g a_N2 v_N2 ++ (cl_N g a_N zv_N ++ (cl_X7 g a_Z (a_K 0) (a_R 0) p_Z_4 u_Z ++ (cl_X4 g a_R (a_K 0) p_R_8 u_R ++ (cl_X8 g a_K (a_P 0) u_K ++ (cl_X0 g a_B2 (a_L2 0) u_B2 ++ (cl_X5 g a_L2 u_L2 v_L2 ++ (cl_X5 g a_L u_L zv_L ++ (cl_X6 g a_P u_P ++ (cl_X12 g a_M zu_M zv_M ++ X)))))))))))))))))))) H locs → lv_has ls 7 [(0, .ref b), (1, .ref (a_T 0)), (2, .ref (a_M 0)), (3, .ref qo), (4, .int x4)] → W p l e room_1 s m #[Value.ref b] below meth c H locs cells slots Q (F0 m 1567 ls [])) : W p l e room_1 s m #[Value.ref b] below meth c H locs cells slots Q (F0 m 530 ls []) := by
  have hx := S.1
  have hb := S.2.1
  refine lv_aload_n hx hb dL_law_530 rfl (lv_at hl 1 rfl) ?_
  refine lv_aload_n hx hb dL_law_531 rfl (lv_at hl 0 rfl) ?_
  refine lv_iload hx hb dL_law_532 (lv_at hl 4 rfl) ?_
  refine lv_iconst (v := 1) hx hb dL_law_534 (by decide) ?_
  refine lv_iadd hx hb dL_law_535 ?_
  refine va_sld hx hb hX hbl hbA hw.2.2 hi1 dL_law_536 ?_
  refine lv_aload_n hx hb dL_law_537 rfl (lv_at hl 0 rfl) ?_
  refine lv_iload hx hb dL_law_538 (lv_at hl 4 rfl) ?_
  refine lv_iconst (v := 2) hx hb dL_law_540 (by decide) ?_
  refine lv_iadd hx hb dL_law_541 ?_
  refine va_sld hx hb hX hbl hbA hw.2.2 hi2 dL_law_542 ?_
  have hw := hw.u17
  have hw := hw.u12
  have hw := hw.u4
  have hw := hw.u4
  have hw := hw.u4
  refine tx_cl hw (tx_runV S hE hw (c_X11_law hc) lk_L_57 (q0 := 0) rfl rfl rfl hl.1 (rest := []) rfl (Nat.le_of_ble_eq_true rfl) ⟨by decide, by decide⟩ dL_law_543 hcs) (fun H locs hw => ?_)
  refine lv_aload_n hx hb dL_law_546 rfl (lv_at hl 2 rfl) ?_
  refine lv_aload_n hx hb dL_law_547 rfl (lv_at hl 0 rfl) ?_
  refine lv_iload hx hb dL_law_548 (lv_at hl 4 rfl) ?_
  refine lv_iconst (v := 1) hx hb dL_law_550 (by decide) ?_
  refine lv_iadd hx hb dL_law_551 ?_
  refine va_sld hx hb hX hbl hbA hw.2.2 hi1 dL_law_552 ?_
  refine lv_aload_n hx hb dL_law_553 rfl (lv_at hl 0 rfl) ?_
  refine lv_iload hx hb dL_law_554 (lv_at hl 4 rfl) ?_
  refine lv_iconst (v := 2) hx hb dL_law_556 (by decide) ?_
  refine lv_iadd hx hb dL_law_557 ?_
  refine va_sld hx hb hX hbl hbA hw.2.2 hi2 dL_law_558 ?_
  have hw := hw.u19
  refine tx_cl hw (tx_runV S hE hw (c_X12_law hm) lk_L_61 (q0 := 0) rfl rfl rfl hl.1 (rest := [.long r]) rfl (Nat.le_of_ble_eq_true rfl) ⟨by decide, by decide⟩ dL_law_559 hcs) (fun H locs hw => ?_)
  refine W.lcmp hx hb dL_law_562 ?_
  refine lv_if_eq (tgt := 1567) hx hb dL_law_563 (by decide) (fun _ => ?_) (fun h => absurd (tx_cmpr r) h)
  have hw := hw.u19
  have hw := hw.u6
  have hw := hw.u19
  have hw := hw.u19
  have hw := hw.u19
  have hw := hw.u19
  have hw := hw.u19
  have hw := hw.u11
  have hw := hw.u19
  have hw := hw.u19
  have hw := hw.u19
  have hw := hw.u19
  have hw := hw.u19
  have hw := hw.u19
  have hw := hw.u19
  have hw := hw.u19
  have hw := hw.u19
  have hw := hw.u19
  have hw := hw.u19
  exact kk hw hl
set_option maxHeartbeats 4000000 in
set_option maxRecDepth 100000 in
theorem law_c8 {p : Program} {l : Launch} {e : Env} {s : State} {m : MethodId} {below : List Frame} {meth : Method} {c : Code} {H : Heap} {locs : List Loc} {cells slots : Nat} {Q : State → Prop} {g : GG} {A : Nat → Prop} {X : va_W} {fu : Nat} {b L qo : Nat} {xs : Nat → Int32} {x4 : Int32} {ls : Array Slot} {kc : Cond} {a_T a_W a_B a_G a_F a_D a_Y a_W3 a_N3 a_W2 a_N2 a_N a_Z a_R a_K a_B2 a_L2 a_L a_P a_M : Nat → Nat} {p_W2_0 p_W3_0 p_Z_4 p_R_8 : Nat} {u_T : S32} {u_W : S32} {u_B : S32} {u_G : S32} {u_F : S32} {u_D : S32} {u_Y : S32} {u_W3 : S32} {v_N3 : S64} {u_W2 : S32} {v_N2 : S64} {v_N : S64} {u_Z : S32} {u_R : S32} {u_K : S32} {u_B2 : S32} {u_L2 : S32} {v_L2 : S64} {u_L : S32} {v_L : S64} {u_P : S32} {u_M : S32} {v_M : S64} {r : Int32} {zu_W : S32} {zu_D : S32} {zu_M : S32} (S : CallFix p m c code 7 s #[Value.ref b] (kc :: allW) RL) (hE : EN g A s) (hX : va_X b L xs s s.heap) (hbl : b < s.heap.size) (hbA : ¬ A b) (hcs : cells ≤ room_1.cells ∧ slots ≤ room_1.slots) (hi1 : vp_in (x4 + (1 : Int32)) L) (hi2 : vp_in (x4 + (2 : Int32)) L) (hc : f_X11_hide fu u_T u_B u_W u_D (xs (x4 + (1 : Int32)).toNatClampNeg) (xs (x4 + (2 : Int32)).toNatClampNeg) = some (r, zu_W, zu_D)) (hm : f_X12_hide fu v_M u_M (xs (x4 + (1 : Int32)).toNatClampNeg) (xs (x4 + (2 : Int32)).toNatClampNeg) = some (r, zu_M)) (hw : WD g A s.heap (cl_X11 g a_T (a_P 0) (a_B 0) (a_B2 0) (a_Z 0) (a_W 0) (a_W2 0) (a_Y 0) (a_D 0) (a_F 0) (a_G 0) u_T ++ (cl_X10 g a_W (a_B 0) (a_N 0) u_W ++ (cl_X0 g a_B (a_L 0) u_B ++ (cl_X3 g a_G u_G ++ (cl_X2 g a_F u_F ++ (cl_X1 g a_D u_D ++ (cl_X9 g a_Y (a_W3 0) u_Y ++ (cl_X10 g a_W3 p_W3_0 (a_N3 0) u_W3 ++ (cl_N g a_N3 v_N3 ++ (cl_X10 g a_W2 p_W2_0 (a_N2 0) u_W2 ++ (cl_N g a_N2 v_N2 ++ (cl_N g a_N v_N ++ (cl_X7 g a_Z (a_K 0) (a_R 0) p_Z_4 u_Z ++ (cl_X4 g a_R (a_K 0) p_R_8 u_R ++ (cl_X8 g a_K (a_P 0) u_K ++ (cl_X0 g a_B2 (a_L2 0) u_B2 ++ (cl_X5 g a_L2 u_L2 v_L2 ++ (cl_X5 g a_L u_L v_L ++ (cl_X6 g a_P u_P ++ (cl_X12 g a_M u_M v_M ++ X)))))))))))))))))))) H locs) (hl : lv_has ls 7 [(0, .ref b), (1, .ref (a_T 0)), (2, .ref (a_M 0)), (3, .ref qo), (4, .int x4)]) (kk : ∀ {H : Heap} {locs : List Loc}, WD g A s.heap (cl_X11 g a_T (a_P 0) (a_B 0) (a_B2 0) (a_Z 0) (a_W 0) (a_W2 0) (a_Y 0) (a_D 0) (a_F 0) (a_G 0) u_T ++ (cl_X10 g a_W (a_B 0) (a_N 0) zu_W ++ (cl_X0 g a_B (a_L 0) u_B ++ (cl_X3 g a_G u_G ++ (cl_X2 g a_F u_F ++ (cl_X1 g a_D zu_D ++ (cl_X9 g a_Y (a_W3 0) u_Y ++ (cl_X10 g a_W3 p_W3_0 (a_N3 0) u_W3 ++ (cl_N g a_N3 v_N3 ++ (cl_X10 g a_W2 p_W2_0 (a_N2 0) u_W2 ++ (cl_N g a_N2 v_N2 ++ (cl_N g a_N v_N ++ (cl_X7 g a_Z (a_K 0) (a_R 0) p_Z_4 u_Z ++ (cl_X4 g a_R (a_K 0) p_R_8 u_R ++ (cl_X8 g a_K (a_P 0) u_K ++ (cl_X0 g a_B2 (a_L2 0) u_B2 ++ (cl_X5 g a_L2 u_L2 v_L2 ++ (cl_X5 g a_L u_L v_L ++ (cl_X6 g a_P u_P ++ (cl_X12 g a_M zu_M v_M ++ X)))))))))))))))))))) H locs → lv_has ls 7 [(0, .ref b), (1, .ref (a_T 0)), (2, .ref (a_M 0)), (3, .ref qo), (4, .int x4)] → W p l e room_1 s m #[Value.ref b] below meth c H locs cells slots Q (F0 m 1567 ls [])) : W p l e room_1 s m #[Value.ref b] below meth c H locs cells slots Q (F0 m 568 ls []) := by
  have hx := S.1
  have hb := S.2.1
  refine lv_aload_n hx hb dL_law_568 rfl (lv_at hl 1 rfl) ?_
  refine lv_aload_n hx hb dL_law_569 rfl (lv_at hl 0 rfl) ?_
  refine lv_iload hx hb dL_law_570 (lv_at hl 4 rfl) ?_
  refine lv_iconst (v := 1) hx hb dL_law_572 (by decide) ?_
  refine lv_iadd hx hb dL_law_573 ?_
  refine va_sld hx hb hX hbl hbA hw.2.2 hi1 dL_law_574 ?_
  refine lv_aload_n hx hb dL_law_575 rfl (lv_at hl 0 rfl) ?_
  refine lv_iload hx hb dL_law_576 (lv_at hl 4 rfl) ?_
  refine lv_iconst (v := 2) hx hb dL_law_578 (by decide) ?_
  refine lv_iadd hx hb dL_law_579 ?_
  refine va_sld hx hb hX hbl hbA hw.2.2 hi2 dL_law_580 ?_
  have hw := hw.u5
  have hw := hw.u3
  have hw := hw.u3
  have hw := hw.u3
  refine tx_ci hw (tx_runV S hE hw (c_X11_hide hc) lk_L_62 (q0 := 0) rfl rfl rfl hl.1 (rest := []) rfl (Nat.le_of_ble_eq_true rfl) ⟨by decide, by decide⟩ dL_law_581 hcs) (fun H locs hw => ?_)
  refine lv_aload_n hx hb dL_law_584 rfl (lv_at hl 2 rfl) ?_
  refine lv_aload_n hx hb dL_law_585 rfl (lv_at hl 0 rfl) ?_
  refine lv_iload hx hb dL_law_586 (lv_at hl 4 rfl) ?_
  refine lv_iconst (v := 1) hx hb dL_law_588 (by decide) ?_
  refine lv_iadd hx hb dL_law_589 ?_
  refine va_sld hx hb hX hbl hbA hw.2.2 hi1 dL_law_590 ?_
  refine lv_aload_n hx hb dL_law_591 rfl (lv_at hl 0 rfl) ?_
  refine lv_iload hx hb dL_law_592 (lv_at hl 4 rfl) ?_
  refine lv_iconst (v := 2) hx hb dL_law_594 (by decide) ?_
  refine lv_iadd hx hb dL_law_595 ?_
  refine va_sld hx hb hX hbl hbA hw.2.2 hi2 dL_law_596 ?_
  have hw := hw.u19
  refine tx_ci hw (tx_runV S hE hw (c_X12_hide hm) lk_L_66 (q0 := 0) rfl rfl rfl hl.1 (rest := [.int r]) rfl (Nat.le_of_ble_eq_true rfl) ⟨by decide, by decide⟩ dL_law_597 hcs) (fun H locs hw => ?_)
  refine lv_icmp_eq (tgt := 1567) hx hb dL_law_600 (by decide) (fun _ => ?_) (fun h => absurd rfl h)
  have hw := hw.u19
  have hw := hw.u19
  have hw := hw.u19
  have hw := hw.u19
  have hw := hw.u19
  have hw := hw.u19
  have hw := hw.u19
  have hw := hw.u19
  have hw := hw.u19
  have hw := hw.u19
  have hw := hw.u19
  have hw := hw.u19
  have hw := hw.u19
  have hw := hw.u17
  have hw := hw.u19
  have hw := hw.u19
  have hw := hw.u19
  have hw := hw.u19
  have hw := hw.u19
  exact kk hw hl
set_option maxHeartbeats 4000000 in
set_option maxRecDepth 100000 in
theorem law_c9 {p : Program} {l : Launch} {e : Env} {s : State} {m : MethodId} {below : List Frame} {meth : Method} {c : Code} {H : Heap} {locs : List Loc} {cells slots : Nat} {Q : State → Prop} {g : GG} {A : Nat → Prop} {X : va_W} {fu : Nat} {b L qo : Nat} {xs : Nat → Int32} {x4 : Int32} {ls : Array Slot} {kc : Cond} {a_T a_W a_B a_G a_F a_D a_Y a_W3 a_N3 a_W2 a_N2 a_N a_Z a_R a_K a_B2 a_L2 a_L a_P a_M : Nat → Nat} {p_W2_0 p_W3_0 p_Z_4 p_R_8 : Nat} {u_T : S32} {u_W : S32} {u_B : S32} {u_G : S32} {u_F : S32} {u_D : S32} {u_Y : S32} {u_W3 : S32} {v_N3 : S64} {u_W2 : S32} {v_N2 : S64} {v_N : S64} {u_Z : S32} {u_R : S32} {u_K : S32} {u_B2 : S32} {u_L2 : S32} {v_L2 : S64} {u_L : S32} {v_L : S64} {u_P : S32} {u_M : S32} {v_M : S64} {r : Int32} {zu_W : S32} {zu_D : S32} {zu_M : S32} (S : CallFix p m c code 7 s #[Value.ref b] (kc :: allW) RL) (hE : EN g A s) (hX : va_X b L xs s s.heap) (hbl : b < s.heap.size) (hbA : ¬ A b) (hcs : cells ≤ room_1.cells ∧ slots ≤ room_1.slots) (hi1 : vp_in (x4 + (1 : Int32)) L) (hi2 : vp_in (x4 + (2 : Int32)) L) (hc : f_X11_buy fu u_T u_B u_W u_D (xs (x4 + (1 : Int32)).toNatClampNeg) (xs (x4 + (2 : Int32)).toNatClampNeg) = some (r, zu_W, zu_D)) (hm : f_X12_buy fu v_M u_M (xs (x4 + (1 : Int32)).toNatClampNeg) (xs (x4 + (2 : Int32)).toNatClampNeg) = some (r, zu_M)) (hw : WD g A s.heap (cl_X11 g a_T (a_P 0) (a_B 0) (a_B2 0) (a_Z 0) (a_W 0) (a_W2 0) (a_Y 0) (a_D 0) (a_F 0) (a_G 0) u_T ++ (cl_X10 g a_W (a_B 0) (a_N 0) u_W ++ (cl_X0 g a_B (a_L 0) u_B ++ (cl_X3 g a_G u_G ++ (cl_X2 g a_F u_F ++ (cl_X1 g a_D u_D ++ (cl_X9 g a_Y (a_W3 0) u_Y ++ (cl_X10 g a_W3 p_W3_0 (a_N3 0) u_W3 ++ (cl_N g a_N3 v_N3 ++ (cl_X10 g a_W2 p_W2_0 (a_N2 0) u_W2 ++ (cl_N g a_N2 v_N2 ++ (cl_N g a_N v_N ++ (cl_X7 g a_Z (a_K 0) (a_R 0) p_Z_4 u_Z ++ (cl_X4 g a_R (a_K 0) p_R_8 u_R ++ (cl_X8 g a_K (a_P 0) u_K ++ (cl_X0 g a_B2 (a_L2 0) u_B2 ++ (cl_X5 g a_L2 u_L2 v_L2 ++ (cl_X5 g a_L u_L v_L ++ (cl_X6 g a_P u_P ++ (cl_X12 g a_M u_M v_M ++ X)))))))))))))))))))) H locs) (hl : lv_has ls 7 [(0, .ref b), (1, .ref (a_T 0)), (2, .ref (a_M 0)), (3, .ref qo), (4, .int x4)]) (kk : ∀ {H : Heap} {locs : List Loc}, WD g A s.heap (cl_X11 g a_T (a_P 0) (a_B 0) (a_B2 0) (a_Z 0) (a_W 0) (a_W2 0) (a_Y 0) (a_D 0) (a_F 0) (a_G 0) u_T ++ (cl_X10 g a_W (a_B 0) (a_N 0) zu_W ++ (cl_X0 g a_B (a_L 0) u_B ++ (cl_X3 g a_G u_G ++ (cl_X2 g a_F u_F ++ (cl_X1 g a_D zu_D ++ (cl_X9 g a_Y (a_W3 0) u_Y ++ (cl_X10 g a_W3 p_W3_0 (a_N3 0) u_W3 ++ (cl_N g a_N3 v_N3 ++ (cl_X10 g a_W2 p_W2_0 (a_N2 0) u_W2 ++ (cl_N g a_N2 v_N2 ++ (cl_N g a_N v_N ++ (cl_X7 g a_Z (a_K 0) (a_R 0) p_Z_4 u_Z ++ (cl_X4 g a_R (a_K 0) p_R_8 u_R ++ (cl_X8 g a_K (a_P 0) u_K ++ (cl_X0 g a_B2 (a_L2 0) u_B2 ++ (cl_X5 g a_L2 u_L2 v_L2 ++ (cl_X5 g a_L u_L v_L ++ (cl_X6 g a_P u_P ++ (cl_X12 g a_M zu_M v_M ++ X)))))))))))))))))))) H locs → lv_has ls 7 [(0, .ref b), (1, .ref (a_T 0)), (2, .ref (a_M 0)), (3, .ref qo), (4, .int x4)] → W p l e room_1 s m #[Value.ref b] below meth c H locs cells slots Q (F0 m 1567 ls [])) : W p l e room_1 s m #[Value.ref b] below meth c H locs cells slots Q (F0 m 605 ls []) := by
  have hx := S.1
  have hb := S.2.1
  refine lv_aload_n hx hb dL_law_605 rfl (lv_at hl 1 rfl) ?_
  refine lv_aload_n hx hb dL_law_606 rfl (lv_at hl 0 rfl) ?_
  refine lv_iload hx hb dL_law_607 (lv_at hl 4 rfl) ?_
  refine lv_iconst (v := 1) hx hb dL_law_609 (by decide) ?_
  refine lv_iadd hx hb dL_law_610 ?_
  refine va_sld hx hb hX hbl hbA hw.2.2 hi1 dL_law_611 ?_
  refine lv_aload_n hx hb dL_law_612 rfl (lv_at hl 0 rfl) ?_
  refine lv_iload hx hb dL_law_613 (lv_at hl 4 rfl) ?_
  refine lv_iconst (v := 2) hx hb dL_law_615 (by decide) ?_
  refine lv_iadd hx hb dL_law_616 ?_
  refine va_sld hx hb hX hbl hbA hw.2.2 hi2 dL_law_617 ?_
  have hw := hw.u5
  have hw := hw.u2
  have hw := hw.u3
  have hw := hw.u3
  refine tx_ci hw (tx_runV S hE hw (c_X11_buy hc) lk_L_67 (q0 := 0) rfl rfl rfl hl.1 (rest := []) rfl (Nat.le_of_ble_eq_true rfl) ⟨by decide, by decide⟩ dL_law_618 hcs) (fun H locs hw => ?_)
  refine lv_aload_n hx hb dL_law_621 rfl (lv_at hl 2 rfl) ?_
  refine lv_aload_n hx hb dL_law_622 rfl (lv_at hl 0 rfl) ?_
  refine lv_iload hx hb dL_law_623 (lv_at hl 4 rfl) ?_
  refine lv_iconst (v := 1) hx hb dL_law_625 (by decide) ?_
  refine lv_iadd hx hb dL_law_626 ?_
  refine va_sld hx hb hX hbl hbA hw.2.2 hi1 dL_law_627 ?_
  refine lv_aload_n hx hb dL_law_628 rfl (lv_at hl 0 rfl) ?_
  refine lv_iload hx hb dL_law_629 (lv_at hl 4 rfl) ?_
  refine lv_iconst (v := 2) hx hb dL_law_631 (by decide) ?_
  refine lv_iadd hx hb dL_law_632 ?_
  refine va_sld hx hb hX hbl hbA hw.2.2 hi2 dL_law_633 ?_
  have hw := hw.u19
  refine tx_ci hw (tx_runV S hE hw (c_X12_buy hm) lk_L_70 (q0 := 0) rfl rfl rfl hl.1 (rest := [.int r]) rfl (Nat.le_of_ble_eq_true rfl) ⟨by decide, by decide⟩ dL_law_634 hcs) (fun H locs hw => ?_)
  refine lv_icmp_eq (tgt := 1567) hx hb dL_law_637 (by decide) (fun _ => ?_) (fun h => absurd rfl h)
  have hw := hw.u19
  have hw := hw.u19
  have hw := hw.u19
  have hw := hw.u19
  have hw := hw.u19
  have hw := hw.u19
  have hw := hw.u19
  have hw := hw.u19
  have hw := hw.u19
  have hw := hw.u19
  have hw := hw.u19
  have hw := hw.u19
  have hw := hw.u19
  have hw := hw.u17
  have hw := hw.u19
  have hw := hw.u19
  have hw := hw.u18
  have hw := hw.u19
  have hw := hw.u19
  exact kk hw hl
set_option maxHeartbeats 4000000 in
set_option maxRecDepth 100000 in
theorem law_c10 {p : Program} {l : Launch} {e : Env} {s : State} {m : MethodId} {below : List Frame} {meth : Method} {c : Code} {H : Heap} {locs : List Loc} {cells slots : Nat} {Q : State → Prop} {g : GG} {A : Nat → Prop} {X : va_W} {fu : Nat} {b L qo : Nat} {xs : Nat → Int32} {x4 : Int32} {ls : Array Slot} {kc : Cond} {a_T a_W a_B a_G a_F a_D a_Y a_W3 a_N3 a_W2 a_N2 a_N a_Z a_R a_K a_B2 a_L2 a_L a_P a_M : Nat → Nat} {p_W2_0 p_W3_0 p_Z_4 p_R_8 : Nat} {u_T : S32} {u_W : S32} {u_B : S32} {u_G : S32} {u_F : S32} {u_D : S32} {u_Y : S32} {u_W3 : S32} {v_N3 : S64} {u_W2 : S32} {v_N2 : S64} {v_N : S64} {u_Z : S32} {u_R : S32} {u_K : S32} {u_B2 : S32} {u_L2 : S32} {v_L2 : S64} {u_L : S32} {v_L : S64} {u_P : S32} {u_M : S32} {v_M : S64} {r : Int32} {zu_W : S32} {zu_D : S32} {zu_M : S32} (S : CallFix p m c code 7 s #[Value.ref b] (kc :: allW) RL) (hE : EN g A s) (hX : va_X b L xs s s.heap) (hbl : b < s.heap.size) (hbA : ¬ A b) (hcs : cells ≤ room_1.cells ∧ slots ≤ room_1.slots) (hi1 : vp_in (x4 + (1 : Int32)) L) (hi2 : vp_in (x4 + (2 : Int32)) L) (hc : f_X11_round fu u_T u_B u_W u_D (xs (x4 + (1 : Int32)).toNatClampNeg) (xs (x4 + (2 : Int32)).toNatClampNeg) = some (r, zu_W, zu_D)) (hm : f_X12_round fu v_M u_M (xs (x4 + (1 : Int32)).toNatClampNeg) (xs (x4 + (2 : Int32)).toNatClampNeg) = some (r, zu_M)) (hw : WD g A s.heap (cl_X11 g a_T (a_P 0) (a_B 0) (a_B2 0) (a_Z 0) (a_W 0) (a_W2 0) (a_Y 0) (a_D 0) (a_F 0) (a_G 0) u_T ++ (cl_X10 g a_W (a_B 0) (a_N 0) u_W ++ (cl_X0 g a_B (a_L 0) u_B ++ (cl_X3 g a_G u_G ++ (cl_X2 g a_F u_F ++ (cl_X1 g a_D u_D ++ (cl_X9 g a_Y (a_W3 0) u_Y ++ (cl_X10 g a_W3 p_W3_0 (a_N3 0) u_W3 ++ (cl_N g a_N3 v_N3 ++ (cl_X10 g a_W2 p_W2_0 (a_N2 0) u_W2 ++ (cl_N g a_N2 v_N2 ++ (cl_N g a_N v_N ++ (cl_X7 g a_Z (a_K 0) (a_R 0) p_Z_4 u_Z ++ (cl_X4 g a_R (a_K 0) p_R_8 u_R ++ (cl_X8 g a_K (a_P 0) u_K ++ (cl_X0 g a_B2 (a_L2 0) u_B2 ++ (cl_X5 g a_L2 u_L2 v_L2 ++ (cl_X5 g a_L u_L v_L ++ (cl_X6 g a_P u_P ++ (cl_X12 g a_M u_M v_M ++ X)))))))))))))))))))) H locs) (hl : lv_has ls 7 [(0, .ref b), (1, .ref (a_T 0)), (2, .ref (a_M 0)), (3, .ref qo), (4, .int x4)]) (kk : ∀ {H : Heap} {locs : List Loc}, WD g A s.heap (cl_X11 g a_T (a_P 0) (a_B 0) (a_B2 0) (a_Z 0) (a_W 0) (a_W2 0) (a_Y 0) (a_D 0) (a_F 0) (a_G 0) u_T ++ (cl_X10 g a_W (a_B 0) (a_N 0) zu_W ++ (cl_X0 g a_B (a_L 0) u_B ++ (cl_X3 g a_G u_G ++ (cl_X2 g a_F u_F ++ (cl_X1 g a_D zu_D ++ (cl_X9 g a_Y (a_W3 0) u_Y ++ (cl_X10 g a_W3 p_W3_0 (a_N3 0) u_W3 ++ (cl_N g a_N3 v_N3 ++ (cl_X10 g a_W2 p_W2_0 (a_N2 0) u_W2 ++ (cl_N g a_N2 v_N2 ++ (cl_N g a_N v_N ++ (cl_X7 g a_Z (a_K 0) (a_R 0) p_Z_4 u_Z ++ (cl_X4 g a_R (a_K 0) p_R_8 u_R ++ (cl_X8 g a_K (a_P 0) u_K ++ (cl_X0 g a_B2 (a_L2 0) u_B2 ++ (cl_X5 g a_L2 u_L2 v_L2 ++ (cl_X5 g a_L u_L v_L ++ (cl_X6 g a_P u_P ++ (cl_X12 g a_M zu_M v_M ++ X)))))))))))))))))))) H locs → lv_has ls 7 [(0, .ref b), (1, .ref (a_T 0)), (2, .ref (a_M 0)), (3, .ref qo), (4, .int x4)] → W p l e room_1 s m #[Value.ref b] below meth c H locs cells slots Q (F0 m 1567 ls [])) : W p l e room_1 s m #[Value.ref b] below meth c H locs cells slots Q (F0 m 642 ls []) := by
  have hx := S.1
  have hb := S.2.1
  refine lv_aload_n hx hb dL_law_642 rfl (lv_at hl 1 rfl) ?_
  refine lv_aload_n hx hb dL_law_643 rfl (lv_at hl 0 rfl) ?_
  refine lv_iload hx hb dL_law_644 (lv_at hl 4 rfl) ?_
  refine lv_iconst (v := 1) hx hb dL_law_646 (by decide) ?_
  refine lv_iadd hx hb dL_law_647 ?_
  refine va_sld hx hb hX hbl hbA hw.2.2 hi1 dL_law_648 ?_
  refine lv_aload_n hx hb dL_law_649 rfl (lv_at hl 0 rfl) ?_
  refine lv_iload hx hb dL_law_650 (lv_at hl 4 rfl) ?_
  refine lv_iconst (v := 2) hx hb dL_law_652 (by decide) ?_
  refine lv_iadd hx hb dL_law_653 ?_
  refine va_sld hx hb hX hbl hbA hw.2.2 hi2 dL_law_654 ?_
  have hw := hw.u5
  have hw := hw.u2
  have hw := hw.u3
  have hw := hw.u3
  refine tx_ci hw (tx_runV S hE hw (c_X11_round hc) lk_L_71 (q0 := 0) rfl rfl rfl hl.1 (rest := []) rfl (Nat.le_of_ble_eq_true rfl) ⟨by decide, by decide⟩ dL_law_655 hcs) (fun H locs hw => ?_)
  refine lv_aload_n hx hb dL_law_658 rfl (lv_at hl 2 rfl) ?_
  refine lv_aload_n hx hb dL_law_659 rfl (lv_at hl 0 rfl) ?_
  refine lv_iload hx hb dL_law_660 (lv_at hl 4 rfl) ?_
  refine lv_iconst (v := 1) hx hb dL_law_662 (by decide) ?_
  refine lv_iadd hx hb dL_law_663 ?_
  refine va_sld hx hb hX hbl hbA hw.2.2 hi1 dL_law_664 ?_
  refine lv_aload_n hx hb dL_law_665 rfl (lv_at hl 0 rfl) ?_
  refine lv_iload hx hb dL_law_666 (lv_at hl 4 rfl) ?_
  refine lv_iconst (v := 2) hx hb dL_law_668 (by decide) ?_
  refine lv_iadd hx hb dL_law_669 ?_
  refine va_sld hx hb hX hbl hbA hw.2.2 hi2 dL_law_670 ?_
  have hw := hw.u19
  refine tx_ci hw (tx_runV S hE hw (c_X12_round hm) lk_L_74 (q0 := 0) rfl rfl rfl hl.1 (rest := [.int r]) rfl (Nat.le_of_ble_eq_true rfl) ⟨by decide, by decide⟩ dL_law_671 hcs) (fun H locs hw => ?_)
  refine lv_icmp_eq (tgt := 1567) hx hb dL_law_674 (by decide) (fun _ => ?_) (fun h => absurd rfl h)
  have hw := hw.u19
  have hw := hw.u19
  have hw := hw.u19
  have hw := hw.u19
  have hw := hw.u19
  have hw := hw.u19
  have hw := hw.u19
  have hw := hw.u19
  have hw := hw.u19
  have hw := hw.u19
  have hw := hw.u19
  have hw := hw.u19
  have hw := hw.u19
  have hw := hw.u17
  have hw := hw.u19
  have hw := hw.u19
  have hw := hw.u18
  have hw := hw.u19
  have hw := hw.u19
  exact kk hw hl
set_option maxHeartbeats 4000000 in
set_option maxRecDepth 100000 in
theorem law_c11 {p : Program} {l : Launch} {e : Env} {s : State} {m : MethodId} {below : List Frame} {meth : Method} {c : Code} {H : Heap} {locs : List Loc} {cells slots : Nat} {Q : State → Prop} {g : GG} {A : Nat → Prop} {X : va_W} {fu : Nat} {b L qo : Nat} {xs : Nat → Int32} {x4 : Int32} {ls : Array Slot} {kc : Cond} {a_T a_W a_B a_G a_F a_D a_Y a_W3 a_N3 a_W2 a_N2 a_N a_Z a_R a_K a_B2 a_L2 a_L a_P a_M : Nat → Nat} {p_W2_0 p_W3_0 p_Z_4 p_R_8 : Nat} {u_T : S32} {u_W : S32} {u_B : S32} {u_G : S32} {u_F : S32} {u_D : S32} {u_Y : S32} {u_W3 : S32} {v_N3 : S64} {u_W2 : S32} {v_N2 : S64} {v_N : S64} {u_Z : S32} {u_R : S32} {u_K : S32} {u_B2 : S32} {u_L2 : S32} {v_L2 : S64} {u_L : S32} {v_L : S64} {u_P : S32} {u_M : S32} {v_M : S64} {r : Int32} {zu_W : S32} {zu_D : S32} {zu_M : S32} (S : CallFix p m c code 7 s #[Value.ref b] (kc :: allW) RL) (hE : EN g A s) (hX : va_X b L xs s s.heap) (hbl : b < s.heap.size) (hbA : ¬ A b) (hcs : cells ≤ room_1.cells ∧ slots ≤ room_1.slots) (hi1 : vp_in (x4 + (1 : Int32)) L) (hc : f_X11_rate fu u_T u_W u_D (xs (x4 + (1 : Int32)).toNatClampNeg) = some (r, zu_W, zu_D)) (hm : f_X12_rate fu v_M u_M (xs (x4 + (1 : Int32)).toNatClampNeg) = some (r, zu_M)) (hw : WD g A s.heap (cl_X11 g a_T (a_P 0) (a_B 0) (a_B2 0) (a_Z 0) (a_W 0) (a_W2 0) (a_Y 0) (a_D 0) (a_F 0) (a_G 0) u_T ++ (cl_X10 g a_W (a_B 0) (a_N 0) u_W ++ (cl_X0 g a_B (a_L 0) u_B ++ (cl_X3 g a_G u_G ++ (cl_X2 g a_F u_F ++ (cl_X1 g a_D u_D ++ (cl_X9 g a_Y (a_W3 0) u_Y ++ (cl_X10 g a_W3 p_W3_0 (a_N3 0) u_W3 ++ (cl_N g a_N3 v_N3 ++ (cl_X10 g a_W2 p_W2_0 (a_N2 0) u_W2 ++ (cl_N g a_N2 v_N2 ++ (cl_N g a_N v_N ++ (cl_X7 g a_Z (a_K 0) (a_R 0) p_Z_4 u_Z ++ (cl_X4 g a_R (a_K 0) p_R_8 u_R ++ (cl_X8 g a_K (a_P 0) u_K ++ (cl_X0 g a_B2 (a_L2 0) u_B2 ++ (cl_X5 g a_L2 u_L2 v_L2 ++ (cl_X5 g a_L u_L v_L ++ (cl_X6 g a_P u_P ++ (cl_X12 g a_M u_M v_M ++ X)))))))))))))))))))) H locs) (hl : lv_has ls 7 [(0, .ref b), (1, .ref (a_T 0)), (2, .ref (a_M 0)), (3, .ref qo), (4, .int x4)]) (kk : ∀ {H : Heap} {locs : List Loc}, WD g A s.heap (cl_X11 g a_T (a_P 0) (a_B 0) (a_B2 0) (a_Z 0) (a_W 0) (a_W2 0) (a_Y 0) (a_D 0) (a_F 0) (a_G 0) u_T ++ (cl_X10 g a_W (a_B 0) (a_N 0) zu_W ++ (cl_X0 g a_B (a_L 0) u_B ++ (cl_X3 g a_G u_G ++ (cl_X2 g a_F u_F ++ (cl_X1 g a_D zu_D ++ (cl_X9 g a_Y (a_W3 0) u_Y ++ (cl_X10 g a_W3 p_W3_0 (a_N3 0) u_W3 ++ (cl_N g a_N3 v_N3 ++ (cl_X10 g a_W2 p_W2_0 (a_N2 0) u_W2 ++ (cl_N g a_N2 v_N2 ++ (cl_N g a_N v_N ++ (cl_X7 g a_Z (a_K 0) (a_R 0) p_Z_4 u_Z ++ (cl_X4 g a_R (a_K 0) p_R_8 u_R ++ (cl_X8 g a_K (a_P 0) u_K ++ (cl_X0 g a_B2 (a_L2 0) u_B2 ++ (cl_X5 g a_L2 u_L2 v_L2 ++ (cl_X5 g a_L u_L v_L ++ (cl_X6 g a_P u_P ++ (cl_X12 g a_M zu_M v_M ++ X)))))))))))))))))))) H locs → lv_has ls 7 [(0, .ref b), (1, .ref (a_T 0)), (2, .ref (a_M 0)), (3, .ref qo), (4, .int x4)] → W p l e room_1 s m #[Value.ref b] below meth c H locs cells slots Q (F0 m 1567 ls [])) : W p l e room_1 s m #[Value.ref b] below meth c H locs cells slots Q (F0 m 679 ls []) := by
  have hx := S.1
  have hb := S.2.1
  refine lv_aload_n hx hb dL_law_679 rfl (lv_at hl 1 rfl) ?_
  refine lv_aload_n hx hb dL_law_680 rfl (lv_at hl 0 rfl) ?_
  refine lv_iload hx hb dL_law_681 (lv_at hl 4 rfl) ?_
  refine lv_iconst (v := 1) hx hb dL_law_683 (by decide) ?_
  refine lv_iadd hx hb dL_law_684 ?_
  refine va_sld hx hb hX hbl hbA hw.2.2 hi1 dL_law_685 ?_
  have hw := hw.u5
  have hw := hw.u2
  have hw := hw.u2
  refine tx_ci hw (tx_runV S hE hw (c_X11_rate hc) lk_L_75 (q0 := 0) rfl rfl rfl hl.1 (rest := []) rfl (Nat.le_of_ble_eq_true rfl) ⟨by decide, by decide⟩ dL_law_686 hcs) (fun H locs hw => ?_)
  refine lv_aload_n hx hb dL_law_689 rfl (lv_at hl 2 rfl) ?_
  refine lv_aload_n hx hb dL_law_690 rfl (lv_at hl 0 rfl) ?_
  refine lv_iload hx hb dL_law_691 (lv_at hl 4 rfl) ?_
  refine lv_iconst (v := 1) hx hb dL_law_693 (by decide) ?_
  refine lv_iadd hx hb dL_law_694 ?_
  refine va_sld hx hb hX hbl hbA hw.2.2 hi1 dL_law_695 ?_
  have hw := hw.u19
  refine tx_ci hw (tx_runV S hE hw (c_X12_rate hm) lk_L_79 (q0 := 0) rfl rfl rfl hl.1 (rest := [.int r]) rfl (Nat.le_of_ble_eq_true rfl) ⟨by decide, by decide⟩ dL_law_696 hcs) (fun H locs hw => ?_)
  refine lv_icmp_eq (tgt := 1567) hx hb dL_law_699 (by decide) (fun _ => ?_) (fun h => absurd rfl h)
  have hw := hw.u19
  have hw := hw.u19
  have hw := hw.u19
  have hw := hw.u19
  have hw := hw.u19
  have hw := hw.u19
  have hw := hw.u19
  have hw := hw.u19
  have hw := hw.u19
  have hw := hw.u19
  have hw := hw.u19
  have hw := hw.u19
  have hw := hw.u19
  have hw := hw.u16
  have hw := hw.u19
  have hw := hw.u19
  have hw := hw.u19
  have hw := hw.u19
  have hw := hw.u19
  exact kk hw hl
set_option maxHeartbeats 4000000 in
set_option maxRecDepth 100000 in
theorem law_c12 {p : Program} {l : Launch} {e : Env} {s : State} {m : MethodId} {below : List Frame} {meth : Method} {c : Code} {H : Heap} {locs : List Loc} {cells slots : Nat} {Q : State → Prop} {g : GG} {A : Nat → Prop} {X : va_W} {fu : Nat} {b L qo : Nat} {xs : Nat → Int32} {x4 : Int32} {ls : Array Slot} {kc : Cond} {a_T a_W a_B a_G a_F a_D a_Y a_W3 a_N3 a_W2 a_N2 a_N a_Z a_R a_K a_B2 a_L2 a_L a_P a_M : Nat → Nat} {p_W2_0 p_W3_0 p_Z_4 p_R_8 : Nat} {u_T : S32} {u_W : S32} {u_B : S32} {u_G : S32} {u_F : S32} {u_D : S32} {u_Y : S32} {u_W3 : S32} {v_N3 : S64} {u_W2 : S32} {v_N2 : S64} {v_N : S64} {u_Z : S32} {u_R : S32} {u_K : S32} {u_B2 : S32} {u_L2 : S32} {v_L2 : S64} {u_L : S32} {v_L : S64} {u_P : S32} {u_M : S32} {v_M : S64} {r : Int32} {zu_W : S32} {zv_L : S64} {zv_N : S64} {zu_D : S32} {zu_M : S32} {zv_M : S64} (S : CallFix p m c code 7 s #[Value.ref b] (kc :: allW) RL) (hE : EN g A s) (hX : va_X b L xs s s.heap) (hbl : b < s.heap.size) (hbA : ¬ A b) (hcs : cells ≤ room_1.cells ∧ slots ≤ room_1.slots) (hi1 : vp_in (x4 + (1 : Int32)) L) (hc : f_X11_weeks fu u_T u_B u_L u_W v_L v_N u_D (xs (x4 + (1 : Int32)).toNatClampNeg) = some (r, zu_W, zv_L, zv_N, zu_D)) (hm : f_X12_weeks fu u_M v_M (xs (x4 + (1 : Int32)).toNatClampNeg) = some (r, zu_M, zv_M)) (hw : WD g A s.heap (cl_X11 g a_T (a_P 0) (a_B 0) (a_B2 0) (a_Z 0) (a_W 0) (a_W2 0) (a_Y 0) (a_D 0) (a_F 0) (a_G 0) u_T ++ (cl_X10 g a_W (a_B 0) (a_N 0) u_W ++ (cl_X0 g a_B (a_L 0) u_B ++ (cl_X3 g a_G u_G ++ (cl_X2 g a_F u_F ++ (cl_X1 g a_D u_D ++ (cl_X9 g a_Y (a_W3 0) u_Y ++ (cl_X10 g a_W3 p_W3_0 (a_N3 0) u_W3 ++ (cl_N g a_N3 v_N3 ++ (cl_X10 g a_W2 p_W2_0 (a_N2 0) u_W2 ++ (cl_N g a_N2 v_N2 ++ (cl_N g a_N v_N ++ (cl_X7 g a_Z (a_K 0) (a_R 0) p_Z_4 u_Z ++ (cl_X4 g a_R (a_K 0) p_R_8 u_R ++ (cl_X8 g a_K (a_P 0) u_K ++ (cl_X0 g a_B2 (a_L2 0) u_B2 ++ (cl_X5 g a_L2 u_L2 v_L2 ++ (cl_X5 g a_L u_L v_L ++ (cl_X6 g a_P u_P ++ (cl_X12 g a_M u_M v_M ++ X)))))))))))))))))))) H locs) (hl : lv_has ls 7 [(0, .ref b), (1, .ref (a_T 0)), (2, .ref (a_M 0)), (3, .ref qo), (4, .int x4)]) (kk : ∀ {H : Heap} {locs : List Loc}, WD g A s.heap (cl_X11 g a_T (a_P 0) (a_B 0) (a_B2 0) (a_Z 0) (a_W 0) (a_W2 0) (a_Y 0) (a_D 0) (a_F 0) (a_G 0) u_T ++ (cl_X10 g a_W (a_B 0) (a_N 0) zu_W ++ (cl_X0 g a_B (a_L 0) u_B ++ (cl_X3 g a_G u_G ++ (cl_X2 g a_F u_F ++ (cl_X1 g a_D zu_D ++ (cl_X9 g a_Y (a_W3 0) u_Y ++ (cl_X10 g a_W3 p_W3_0 (a_N3 0) u_W3 ++ (cl_N g a_N3 v_N3 ++ (cl_X10 g a_W2 p_W2_0 (a_N2 0) u_W2 ++ (cl_N g a_N2 v_N2 ++ (cl_N g a_N zv_N ++ (cl_X7 g a_Z (a_K 0) (a_R 0) p_Z_4 u_Z ++ (cl_X4 g a_R (a_K 0) p_R_8 u_R ++ (cl_X8 g a_K (a_P 0) u_K ++ (cl_X0 g a_B2 (a_L2 0) u_B2 ++ (cl_X5 g a_L2 u_L2 v_L2 ++ (cl_X5 g a_L u_L zv_L ++ (cl_X6 g a_P u_P ++ (cl_X12 g a_M zu_M zv_M ++ X)))))))))))))))))))) H locs → lv_has ls 7 [(0, .ref b), (1, .ref (a_T 0)), (2, .ref (a_M 0)), (3, .ref qo), (4, .int x4)] → W p l e room_1 s m #[Value.ref b] below meth c H locs cells slots Q (F0 m 1567 ls [])) : W p l e room_1 s m #[Value.ref b] below meth c H locs cells slots Q (F0 m 704 ls []) := by
  have hx := S.1
  have hb := S.2.1
  refine lv_aload_n hx hb dL_law_704 rfl (lv_at hl 1 rfl) ?_
  refine lv_aload_n hx hb dL_law_705 rfl (lv_at hl 0 rfl) ?_
  refine lv_iload hx hb dL_law_706 (lv_at hl 4 rfl) ?_
  refine lv_iconst (v := 1) hx hb dL_law_708 (by decide) ?_
  refine lv_iadd hx hb dL_law_709 ?_
  refine va_sld hx hb hX hbl hbA hw.2.2 hi1 dL_law_710 ?_
  have hw := hw.u5
  have hw := hw.u11
  have hw := hw.u17
  have hw := hw.u5
  have hw := hw.u5
  have hw := hw.u5
  refine tx_ci hw (tx_runV S hE hw (c_X11_weeks hc) lk_L_80 (q0 := 0) rfl rfl rfl hl.1 (rest := []) rfl (Nat.le_of_ble_eq_true rfl) ⟨by decide, by decide⟩ dL_law_711 hcs) (fun H locs hw => ?_)
  refine lv_aload_n hx hb dL_law_714 rfl (lv_at hl 2 rfl) ?_
  refine lv_aload_n hx hb dL_law_715 rfl (lv_at hl 0 rfl) ?_
  refine lv_iload hx hb dL_law_716 (lv_at hl 4 rfl) ?_
  refine lv_iconst (v := 1) hx hb dL_law_718 (by decide) ?_
  refine lv_iadd hx hb dL_law_719 ?_
  refine va_sld hx hb hX hbl hbA hw.2.2 hi1 dL_law_720 ?_
  have hw := hw.u19
  refine tx_ci hw (tx_runV S hE hw (c_X12_weeks hm) lk_L_83 (q0 := 0) rfl rfl rfl hl.1 (rest := [.int r]) rfl (Nat.le_of_ble_eq_true rfl) ⟨by decide, by decide⟩ dL_law_721 hcs) (fun H locs hw => ?_)
  refine lv_icmp_eq (tgt := 1567) hx hb dL_law_724 (by decide) (fun _ => ?_) (fun h => absurd rfl h)
  have hw := hw.u19
  have hw := hw.u5
  have hw := hw.u19
  have hw := hw.u19
  have hw := hw.u19
  have hw := hw.u19
  have hw := hw.u19
  have hw := hw.u11
  have hw := hw.u19
  have hw := hw.u19
  have hw := hw.u19
  have hw := hw.u19
  have hw := hw.u19
  have hw := hw.u17
  have hw := hw.u19
  have hw := hw.u19
  have hw := hw.u19
  have hw := hw.u19
  have hw := hw.u19
  exact kk hw hl
set_option maxHeartbeats 4000000 in
set_option maxRecDepth 100000 in
theorem law_c13 {p : Program} {l : Launch} {e : Env} {s : State} {m : MethodId} {below : List Frame} {meth : Method} {c : Code} {H : Heap} {locs : List Loc} {cells slots : Nat} {Q : State → Prop} {g : GG} {A : Nat → Prop} {X : va_W} {fu : Nat} {b L qo : Nat} {xs : Nat → Int32} {x4 : Int32} {ls : Array Slot} {kc : Cond} {a_T a_W a_B a_G a_F a_D a_Y a_W3 a_N3 a_W2 a_N2 a_N a_Z a_R a_K a_B2 a_L2 a_L a_P a_M : Nat → Nat} {p_W2_0 p_W3_0 p_Z_4 p_R_8 : Nat} {u_T : S32} {u_W : S32} {u_B : S32} {u_G : S32} {u_F : S32} {u_D : S32} {u_Y : S32} {u_W3 : S32} {v_N3 : S64} {u_W2 : S32} {v_N2 : S64} {v_N : S64} {u_Z : S32} {u_R : S32} {u_K : S32} {u_B2 : S32} {u_L2 : S32} {v_L2 : S64} {u_L : S32} {v_L : S64} {u_P : S32} {u_M : S32} {v_M : S64} {r : Int32} {zu_W3 : S32} {zv_L : S64} {zv_N3 : S64} {zq_W3_0 : Nat} {zu_M : S32} {zv_M : S64} (S : CallFix p m c code 7 s #[Value.ref b] (kc :: allW) RL) (hE : EN g A s) (hX : va_X b L xs s s.heap) (hbl : b < s.heap.size) (hbA : ¬ A b) (hcs : cells ≤ room_1.cells ∧ slots ≤ room_1.slots) (hi1 : vp_in (x4 + (1 : Int32)) L) (hi2 : vp_in (x4 + (2 : Int32)) L) (hc : f_X11_ahead fu u_T u_Y u_W u_B u_L p_W3_0 (a_B 0) u_W3 v_L v_N3 (xs (x4 + (1 : Int32)).toNatClampNeg) (xs (x4 + (2 : Int32)).toNatClampNeg) = some (r, zu_W3, zv_L, zv_N3, zq_W3_0)) (hm : f_X12_ahead fu u_M v_M (xs (x4 + (1 : Int32)).toNatClampNeg) (xs (x4 + (2 : Int32)).toNatClampNeg) = some (r, zu_M, zv_M)) (hw : WD g A s.heap (cl_X11 g a_T (a_P 0) (a_B 0) (a_B2 0) (a_Z 0) (a_W 0) (a_W2 0) (a_Y 0) (a_D 0) (a_F 0) (a_G 0) u_T ++ (cl_X10 g a_W (a_B 0) (a_N 0) u_W ++ (cl_X0 g a_B (a_L 0) u_B ++ (cl_X3 g a_G u_G ++ (cl_X2 g a_F u_F ++ (cl_X1 g a_D u_D ++ (cl_X9 g a_Y (a_W3 0) u_Y ++ (cl_X10 g a_W3 p_W3_0 (a_N3 0) u_W3 ++ (cl_N g a_N3 v_N3 ++ (cl_X10 g a_W2 p_W2_0 (a_N2 0) u_W2 ++ (cl_N g a_N2 v_N2 ++ (cl_N g a_N v_N ++ (cl_X7 g a_Z (a_K 0) (a_R 0) p_Z_4 u_Z ++ (cl_X4 g a_R (a_K 0) p_R_8 u_R ++ (cl_X8 g a_K (a_P 0) u_K ++ (cl_X0 g a_B2 (a_L2 0) u_B2 ++ (cl_X5 g a_L2 u_L2 v_L2 ++ (cl_X5 g a_L u_L v_L ++ (cl_X6 g a_P u_P ++ (cl_X12 g a_M u_M v_M ++ X)))))))))))))))))))) H locs) (hl : lv_has ls 7 [(0, .ref b), (1, .ref (a_T 0)), (2, .ref (a_M 0)), (3, .ref qo), (4, .int x4)]) (kk : ∀ {H : Heap} {locs : List Loc}, WD g A s.heap (cl_X11 g a_T (a_P 0) (a_B 0) (a_B2 0) (a_Z 0) (a_W 0) (a_W2 0) (a_Y 0) (a_D 0) (a_F 0) (a_G 0) u_T ++ (cl_X10 g a_W (a_B 0) (a_N 0) u_W ++ (cl_X0 g a_B (a_L 0) u_B ++ (cl_X3 g a_G u_G ++ (cl_X2 g a_F u_F ++ (cl_X1 g a_D u_D ++ (cl_X9 g a_Y (a_W3 0) u_Y ++ (cl_X10 g a_W3 zq_W3_0 (a_N3 0) zu_W3 ++ (cl_N g a_N3 zv_N3 ++ (cl_X10 g a_W2 p_W2_0 (a_N2 0) u_W2 ++ (cl_N g a_N2 v_N2 ++ (cl_N g a_N v_N ++ (cl_X7 g a_Z (a_K 0) (a_R 0) p_Z_4 u_Z ++ (cl_X4 g a_R (a_K 0) p_R_8 u_R ++ (cl_X8 g a_K (a_P 0) u_K ++ (cl_X0 g a_B2 (a_L2 0) u_B2 ++ (cl_X5 g a_L2 u_L2 v_L2 ++ (cl_X5 g a_L u_L zv_L ++ (cl_X6 g a_P u_P ++ (cl_X12 g a_M zu_M zv_M ++ X)))))))))))))))))))) H locs → lv_has ls 7 [(0, .ref b), (1, .ref (a_T 0)), (2, .ref (a_M 0)), (3, .ref qo), (4, .int x4)] → W p l e room_1 s m #[Value.ref b] below meth c H locs cells slots Q (F0 m 1567 ls [])) : W p l e room_1 s m #[Value.ref b] below meth c H locs cells slots Q (F0 m 729 ls []) := by
  have hx := S.1
  have hb := S.2.1
  refine lv_aload_n hx hb dL_law_729 rfl (lv_at hl 1 rfl) ?_
  refine lv_aload_n hx hb dL_law_730 rfl (lv_at hl 0 rfl) ?_
  refine lv_iload hx hb dL_law_731 (lv_at hl 4 rfl) ?_
  refine lv_iconst (v := 1) hx hb dL_law_733 (by decide) ?_
  refine lv_iadd hx hb dL_law_734 ?_
  refine va_sld hx hb hX hbl hbA hw.2.2 hi1 dL_law_735 ?_
  refine lv_aload_n hx hb dL_law_736 rfl (lv_at hl 0 rfl) ?_
  refine lv_iload hx hb dL_law_737 (lv_at hl 4 rfl) ?_
  refine lv_iconst (v := 2) hx hb dL_law_739 (by decide) ?_
  refine lv_iadd hx hb dL_law_740 ?_
  refine va_sld hx hb hX hbl hbA hw.2.2 hi2 dL_law_741 ?_
  have hw := hw.u8
  have hw := hw.u17
  have hw := hw.u4
  have hw := hw.u9
  have hw := hw.u5
  have hw := hw.u9
  have hw := hw.u6
  refine tx_ci hw (tx_runV S hE hw (c_X11_ahead hc) lk_L_84 (q0 := 0) rfl rfl rfl hl.1 (rest := []) rfl (Nat.le_of_ble_eq_true rfl) ⟨by decide, by decide⟩ dL_law_742 hcs) (fun H locs hw => ?_)
  refine lv_aload_n hx hb dL_law_745 rfl (lv_at hl 2 rfl) ?_
  refine lv_aload_n hx hb dL_law_746 rfl (lv_at hl 0 rfl) ?_
  refine lv_iload hx hb dL_law_747 (lv_at hl 4 rfl) ?_
  refine lv_iconst (v := 1) hx hb dL_law_749 (by decide) ?_
  refine lv_iadd hx hb dL_law_750 ?_
  refine va_sld hx hb hX hbl hbA hw.2.2 hi1 dL_law_751 ?_
  refine lv_aload_n hx hb dL_law_752 rfl (lv_at hl 0 rfl) ?_
  refine lv_iload hx hb dL_law_753 (lv_at hl 4 rfl) ?_
  refine lv_iconst (v := 2) hx hb dL_law_755 (by decide) ?_
  refine lv_iadd hx hb dL_law_756 ?_
  refine va_sld hx hb hX hbl hbA hw.2.2 hi2 dL_law_757 ?_
  have hw := hw.u19
  refine tx_ci hw (tx_runV S hE hw (c_X12_ahead hm) lk_L_87 (q0 := 0) rfl rfl rfl hl.1 (rest := [.int r]) rfl (Nat.le_of_ble_eq_true rfl) ⟨by decide, by decide⟩ dL_law_758 hcs) (fun H locs hw => ?_)
  refine lv_icmp_eq (tgt := 1567) hx hb dL_law_761 (by decide) (fun _ => ?_) (fun h => absurd rfl h)
  have hw := hw.u19
  have hw := hw.u7
  have hw := hw.u19
  have hw := hw.u19
  have hw := hw.u19
  have hw := hw.u19
  have hw := hw.u19
  have hw := hw.u19
  have hw := hw.u19
  have hw := hw.u19
  have hw := hw.u16
  have hw := hw.u15
  have hw := hw.u14
  have hw := hw.u19
  have hw := hw.u19
  have hw := hw.u19
  have hw := hw.u19
  have hw := hw.u19
  have hw := hw.u19
  exact kk hw hl
set_option maxHeartbeats 4000000 in
set_option maxRecDepth 100000 in
theorem law_c14 {p : Program} {l : Launch} {e : Env} {s : State} {m : MethodId} {below : List Frame} {meth : Method} {c : Code} {H : Heap} {locs : List Loc} {cells slots : Nat} {Q : State → Prop} {g : GG} {A : Nat → Prop} {X : va_W} {fu : Nat} {b L qo : Nat} {xs : Nat → Int32} {x4 : Int32} {ls : Array Slot} {kc : Cond} {a_T a_W a_B a_G a_F a_D a_Y a_W3 a_N3 a_W2 a_N2 a_N a_Z a_R a_K a_B2 a_L2 a_L a_P a_M : Nat → Nat} {p_W2_0 p_W3_0 p_Z_4 p_R_8 : Nat} {u_T : S32} {u_W : S32} {u_B : S32} {u_G : S32} {u_F : S32} {u_D : S32} {u_Y : S32} {u_W3 : S32} {v_N3 : S64} {u_W2 : S32} {v_N2 : S64} {v_N : S64} {u_Z : S32} {u_R : S32} {u_K : S32} {u_B2 : S32} {u_L2 : S32} {v_L2 : S64} {u_L : S32} {v_L : S64} {u_P : S32} {u_M : S32} {v_M : S64} {r : Int32} {zv_L : S64} {zv_N : S64} {zu_M : S32} {zv_M : S64} (S : CallFix p m c code 7 s #[Value.ref b] (kc :: allW) RL) (hE : EN g A s) (hX : va_X b L xs s s.heap) (hbl : b < s.heap.size) (hbA : ¬ A b) (hcs : cells ≤ room_1.cells ∧ slots ≤ room_1.slots) (hi1 : vp_in (x4 + (1 : Int32)) L) (hc : f_X11_likely fu u_T u_B u_W u_L v_L v_N (xs (x4 + (1 : Int32)).toNatClampNeg) = some (r, zv_L, zv_N)) (hm : f_X12_likely fu u_M v_M (xs (x4 + (1 : Int32)).toNatClampNeg) = some (r, zu_M, zv_M)) (hw : WD g A s.heap (cl_X11 g a_T (a_P 0) (a_B 0) (a_B2 0) (a_Z 0) (a_W 0) (a_W2 0) (a_Y 0) (a_D 0) (a_F 0) (a_G 0) u_T ++ (cl_X10 g a_W (a_B 0) (a_N 0) u_W ++ (cl_X0 g a_B (a_L 0) u_B ++ (cl_X3 g a_G u_G ++ (cl_X2 g a_F u_F ++ (cl_X1 g a_D u_D ++ (cl_X9 g a_Y (a_W3 0) u_Y ++ (cl_X10 g a_W3 p_W3_0 (a_N3 0) u_W3 ++ (cl_N g a_N3 v_N3 ++ (cl_X10 g a_W2 p_W2_0 (a_N2 0) u_W2 ++ (cl_N g a_N2 v_N2 ++ (cl_N g a_N v_N ++ (cl_X7 g a_Z (a_K 0) (a_R 0) p_Z_4 u_Z ++ (cl_X4 g a_R (a_K 0) p_R_8 u_R ++ (cl_X8 g a_K (a_P 0) u_K ++ (cl_X0 g a_B2 (a_L2 0) u_B2 ++ (cl_X5 g a_L2 u_L2 v_L2 ++ (cl_X5 g a_L u_L v_L ++ (cl_X6 g a_P u_P ++ (cl_X12 g a_M u_M v_M ++ X)))))))))))))))))))) H locs) (hl : lv_has ls 7 [(0, .ref b), (1, .ref (a_T 0)), (2, .ref (a_M 0)), (3, .ref qo), (4, .int x4)]) (kk : ∀ {H : Heap} {locs : List Loc}, WD g A s.heap (cl_X11 g a_T (a_P 0) (a_B 0) (a_B2 0) (a_Z 0) (a_W 0) (a_W2 0) (a_Y 0) (a_D 0) (a_F 0) (a_G 0) u_T ++ (cl_X10 g a_W (a_B 0) (a_N 0) u_W ++ (cl_X0 g a_B (a_L 0) u_B ++ (cl_X3 g a_G u_G ++ (cl_X2 g a_F u_F ++ (cl_X1 g a_D u_D ++ (cl_X9 g a_Y (a_W3 0) u_Y ++ (cl_X10 g a_W3 p_W3_0 (a_N3 0) u_W3 ++ (cl_N g a_N3 v_N3 ++ (cl_X10 g a_W2 p_W2_0 (a_N2 0) u_W2 ++ (cl_N g a_N2 v_N2 ++ (cl_N g a_N zv_N ++ (cl_X7 g a_Z (a_K 0) (a_R 0) p_Z_4 u_Z ++ (cl_X4 g a_R (a_K 0) p_R_8 u_R ++ (cl_X8 g a_K (a_P 0) u_K ++ (cl_X0 g a_B2 (a_L2 0) u_B2 ++ (cl_X5 g a_L2 u_L2 v_L2 ++ (cl_X5 g a_L u_L zv_L ++ (cl_X6 g a_P u_P ++ (cl_X12 g a_M zu_M zv_M ++ X)))))))))))))))))))) H locs → lv_has ls 7 [(0, .ref b), (1, .ref (a_T 0)), (2, .ref (a_M 0)), (3, .ref qo), (4, .int x4)] → W p l e room_1 s m #[Value.ref b] below meth c H locs cells slots Q (F0 m 1567 ls [])) : W p l e room_1 s m #[Value.ref b] below meth c H locs cells slots Q (F0 m 766 ls []) := by
  have hx := S.1
  have hb := S.2.1
  refine lv_aload_n hx hb dL_law_766 rfl (lv_at hl 1 rfl) ?_
  refine lv_aload_n hx hb dL_law_767 rfl (lv_at hl 0 rfl) ?_
  refine lv_iload hx hb dL_law_768 (lv_at hl 4 rfl) ?_
  refine lv_iconst (v := 1) hx hb dL_law_770 (by decide) ?_
  refine lv_iadd hx hb dL_law_771 ?_
  refine va_sld hx hb hX hbl hbA hw.2.2 hi1 dL_law_772 ?_
  have hw := hw.u11
  have hw := hw.u17
  have hw := hw.u3
  have hw := hw.u4
  have hw := hw.u4
  refine tx_ci hw (tx_runV S hE hw (c_X11_likely hc) lk_L_88 (q0 := 0) rfl rfl rfl hl.1 (rest := []) rfl (Nat.le_of_ble_eq_true rfl) ⟨by decide, by decide⟩ dL_law_773 hcs) (fun H locs hw => ?_)
  refine lv_aload_n hx hb dL_law_776 rfl (lv_at hl 2 rfl) ?_
  refine lv_aload_n hx hb dL_law_777 rfl (lv_at hl 0 rfl) ?_
  refine lv_iload hx hb dL_law_778 (lv_at hl 4 rfl) ?_
  refine lv_iconst (v := 1) hx hb dL_law_780 (by decide) ?_
  refine lv_iadd hx hb dL_law_781 ?_
  refine va_sld hx hb hX hbl hbA hw.2.2 hi1 dL_law_782 ?_
  have hw := hw.u19
  refine tx_ci hw (tx_runV S hE hw (c_X12_likely hm) lk_L_91 (q0 := 0) rfl rfl rfl hl.1 (rest := [.int r]) rfl (Nat.le_of_ble_eq_true rfl) ⟨by decide, by decide⟩ dL_law_783 hcs) (fun H locs hw => ?_)
  refine lv_icmp_eq (tgt := 1567) hx hb dL_law_786 (by decide) (fun _ => ?_) (fun h => absurd rfl h)
  have hw := hw.u19
  have hw := hw.u5
  have hw := hw.u19
  have hw := hw.u19
  have hw := hw.u19
  have hw := hw.u19
  have hw := hw.u19
  have hw := hw.u11
  have hw := hw.u19
  have hw := hw.u19
  have hw := hw.u19
  have hw := hw.u19
  have hw := hw.u19
  have hw := hw.u19
  have hw := hw.u19
  have hw := hw.u19
  have hw := hw.u18
  have hw := hw.u19
  have hw := hw.u19
  exact kk hw hl
set_option maxHeartbeats 4000000 in
set_option maxRecDepth 100000 in
theorem law_c15 {p : Program} {l : Launch} {e : Env} {s : State} {m : MethodId} {below : List Frame} {meth : Method} {c : Code} {H : Heap} {locs : List Loc} {cells slots : Nat} {Q : State → Prop} {g : GG} {A : Nat → Prop} {X : va_W} {fu : Nat} {b L qo : Nat} {xs : Nat → Int32} {x4 : Int32} {ls : Array Slot} {kc : Cond} {a_T a_W a_B a_G a_F a_D a_Y a_W3 a_N3 a_W2 a_N2 a_N a_Z a_R a_K a_B2 a_L2 a_L a_P a_M : Nat → Nat} {p_W2_0 p_W3_0 p_Z_4 p_R_8 : Nat} {u_T : S32} {u_W : S32} {u_B : S32} {u_G : S32} {u_F : S32} {u_D : S32} {u_Y : S32} {u_W3 : S32} {v_N3 : S64} {u_W2 : S32} {v_N2 : S64} {v_N : S64} {u_Z : S32} {u_R : S32} {u_K : S32} {u_B2 : S32} {u_L2 : S32} {v_L2 : S64} {u_L : S32} {v_L : S64} {u_P : S32} {u_M : S32} {v_M : S64} {r : Int32} {zu_W3 : S32} {zv_L : S64} {zv_N3 : S64} {zq_W3_0 : Nat} {zu_M : S32} {zv_M : S64} (S : CallFix p m c code 7 s #[Value.ref b] (kc :: allW) RL) (hE : EN g A s) (hX : va_X b L xs s s.heap) (hbl : b < s.heap.size) (hbA : ¬ A b) (hcs : cells ≤ room_1.cells ∧ slots ≤ room_1.slots) (hi1 : vp_in (x4 + (1 : Int32)) L) (hc : f_X11_bestRound fu u_T u_B u_Y u_W u_L p_W3_0 (a_B 0) u_W3 v_L v_N3 (xs (x4 + (1 : Int32)).toNatClampNeg) = some (r, zu_W3, zv_L, zv_N3, zq_W3_0)) (hm : f_X12_bestRound fu u_M v_M (xs (x4 + (1 : Int32)).toNatClampNeg) = some (r, zu_M, zv_M)) (hw : WD g A s.heap (cl_X11 g a_T (a_P 0) (a_B 0) (a_B2 0) (a_Z 0) (a_W 0) (a_W2 0) (a_Y 0) (a_D 0) (a_F 0) (a_G 0) u_T ++ (cl_X10 g a_W (a_B 0) (a_N 0) u_W ++ (cl_X0 g a_B (a_L 0) u_B ++ (cl_X3 g a_G u_G ++ (cl_X2 g a_F u_F ++ (cl_X1 g a_D u_D ++ (cl_X9 g a_Y (a_W3 0) u_Y ++ (cl_X10 g a_W3 p_W3_0 (a_N3 0) u_W3 ++ (cl_N g a_N3 v_N3 ++ (cl_X10 g a_W2 p_W2_0 (a_N2 0) u_W2 ++ (cl_N g a_N2 v_N2 ++ (cl_N g a_N v_N ++ (cl_X7 g a_Z (a_K 0) (a_R 0) p_Z_4 u_Z ++ (cl_X4 g a_R (a_K 0) p_R_8 u_R ++ (cl_X8 g a_K (a_P 0) u_K ++ (cl_X0 g a_B2 (a_L2 0) u_B2 ++ (cl_X5 g a_L2 u_L2 v_L2 ++ (cl_X5 g a_L u_L v_L ++ (cl_X6 g a_P u_P ++ (cl_X12 g a_M u_M v_M ++ X)))))))))))))))))))) H locs) (hl : lv_has ls 7 [(0, .ref b), (1, .ref (a_T 0)), (2, .ref (a_M 0)), (3, .ref qo), (4, .int x4)]) (kk : ∀ {H : Heap} {locs : List Loc}, WD g A s.heap (cl_X11 g a_T (a_P 0) (a_B 0) (a_B2 0) (a_Z 0) (a_W 0) (a_W2 0) (a_Y 0) (a_D 0) (a_F 0) (a_G 0) u_T ++ (cl_X10 g a_W (a_B 0) (a_N 0) u_W ++ (cl_X0 g a_B (a_L 0) u_B ++ (cl_X3 g a_G u_G ++ (cl_X2 g a_F u_F ++ (cl_X1 g a_D u_D ++ (cl_X9 g a_Y (a_W3 0) u_Y ++ (cl_X10 g a_W3 zq_W3_0 (a_N3 0) zu_W3 ++ (cl_N g a_N3 zv_N3 ++ (cl_X10 g a_W2 p_W2_0 (a_N2 0) u_W2 ++ (cl_N g a_N2 v_N2 ++ (cl_N g a_N v_N ++ (cl_X7 g a_Z (a_K 0) (a_R 0) p_Z_4 u_Z ++ (cl_X4 g a_R (a_K 0) p_R_8 u_R ++ (cl_X8 g a_K (a_P 0) u_K ++ (cl_X0 g a_B2 (a_L2 0) u_B2 ++ (cl_X5 g a_L2 u_L2 v_L2 ++ (cl_X5 g a_L u_L zv_L ++ (cl_X6 g a_P u_P ++ (cl_X12 g a_M zu_M zv_M ++ X)))))))))))))))))))) H locs → lv_has ls 7 [(0, .ref b), (1, .ref (a_T 0)), (2, .ref (a_M 0)), (3, .ref qo), (4, .int x4)] → W p l e room_1 s m #[Value.ref b] below meth c H locs cells slots Q (F0 m 1567 ls [])) : W p l e room_1 s m #[Value.ref b] below meth c H locs cells slots Q (F0 m 791 ls []) := by
  have hx := S.1
  have hb := S.2.1
  refine lv_aload_n hx hb dL_law_791 rfl (lv_at hl 1 rfl) ?_
  refine lv_aload_n hx hb dL_law_792 rfl (lv_at hl 0 rfl) ?_
  refine lv_iload hx hb dL_law_793 (lv_at hl 4 rfl) ?_
  refine lv_iconst (v := 1) hx hb dL_law_795 (by decide) ?_
  refine lv_iadd hx hb dL_law_796 ?_
  refine va_sld hx hb hX hbl hbA hw.2.2 hi1 dL_law_797 ?_
  have hw := hw.u8
  have hw := hw.u17
  have hw := hw.u9
  have hw := hw.u4
  have hw := hw.u9
  have hw := hw.u6
  have hw := hw.u6
  refine tx_ci hw (tx_runV S hE hw (c_X11_bestRound hc) lk_L_92 (q0 := 0) rfl rfl rfl hl.1 (rest := []) rfl (Nat.le_of_ble_eq_true rfl) ⟨by decide, by decide⟩ dL_law_798 hcs) (fun H locs hw => ?_)
  refine lv_aload_n hx hb dL_law_801 rfl (lv_at hl 2 rfl) ?_
  refine lv_aload_n hx hb dL_law_802 rfl (lv_at hl 0 rfl) ?_
  refine lv_iload hx hb dL_law_803 (lv_at hl 4 rfl) ?_
  refine lv_iconst (v := 1) hx hb dL_law_805 (by decide) ?_
  refine lv_iadd hx hb dL_law_806 ?_
  refine va_sld hx hb hX hbl hbA hw.2.2 hi1 dL_law_807 ?_
  have hw := hw.u19
  refine tx_ci hw (tx_runV S hE hw (c_X12_bestRound hm) lk_L_95 (q0 := 0) rfl rfl rfl hl.1 (rest := [.int r]) rfl (Nat.le_of_ble_eq_true rfl) ⟨by decide, by decide⟩ dL_law_808 hcs) (fun H locs hw => ?_)
  refine lv_icmp_eq (tgt := 1567) hx hb dL_law_811 (by decide) (fun _ => ?_) (fun h => absurd rfl h)
  have hw := hw.u19
  have hw := hw.u7
  have hw := hw.u19
  have hw := hw.u19
  have hw := hw.u19
  have hw := hw.u19
  have hw := hw.u19
  have hw := hw.u19
  have hw := hw.u19
  have hw := hw.u19
  have hw := hw.u16
  have hw := hw.u16
  have hw := hw.u15
  have hw := hw.u19
  have hw := hw.u19
  have hw := hw.u19
  have hw := hw.u18
  have hw := hw.u19
  have hw := hw.u19
  exact kk hw hl
set_option maxHeartbeats 4000000 in
set_option maxRecDepth 100000 in
theorem law_c16 {p : Program} {l : Launch} {e : Env} {s : State} {m : MethodId} {below : List Frame} {meth : Method} {c : Code} {H : Heap} {locs : List Loc} {cells slots : Nat} {Q : State → Prop} {g : GG} {A : Nat → Prop} {X : va_W} {fu : Nat} {b L qo : Nat} {xs : Nat → Int32} {x4 : Int32} {ls : Array Slot} {kc : Cond} {a_T a_W a_B a_G a_F a_D a_Y a_W3 a_N3 a_W2 a_N2 a_N a_Z a_R a_K a_B2 a_L2 a_L a_P a_M : Nat → Nat} {p_W2_0 p_W3_0 p_Z_4 p_R_8 : Nat} {u_T : S32} {u_W : S32} {u_B : S32} {u_G : S32} {u_F : S32} {u_D : S32} {u_Y : S32} {u_W3 : S32} {v_N3 : S64} {u_W2 : S32} {v_N2 : S64} {v_N : S64} {u_Z : S32} {u_R : S32} {u_K : S32} {u_B2 : S32} {u_L2 : S32} {v_L2 : S64} {u_L : S32} {v_L : S64} {u_P : S32} {u_M : S32} {v_M : S64} {r : Int32} {zu_W3 : S32} {zv_L : S64} {zv_N3 : S64} {zq_W3_0 : Nat} {zu_M : S32} {zv_M : S64} (S : CallFix p m c code 7 s #[Value.ref b] (kc :: allW) RL) (hE : EN g A s) (hX : va_X b L xs s s.heap) (hbl : b < s.heap.size) (hbA : ¬ A b) (hcs : cells ≤ room_1.cells ∧ slots ≤ room_1.slots) (hi1 : vp_in (x4 + (1 : Int32)) L) (hi2 : vp_in (x4 + (2 : Int32)) L) (hc : f_X11_hideIn fu u_T u_B u_W u_Y u_L p_W3_0 (a_B 0) u_W3 v_L v_N3 (xs (x4 + (1 : Int32)).toNatClampNeg) (xs (x4 + (2 : Int32)).toNatClampNeg) = some (r, zu_W3, zv_L, zv_N3, zq_W3_0)) (hm : f_X12_hideIn fu u_M v_M (xs (x4 + (1 : Int32)).toNatClampNeg) (xs (x4 + (2 : Int32)).toNatClampNeg) = some (r, zu_M, zv_M)) (hw : WD g A s.heap (cl_X11 g a_T (a_P 0) (a_B 0) (a_B2 0) (a_Z 0) (a_W 0) (a_W2 0) (a_Y 0) (a_D 0) (a_F 0) (a_G 0) u_T ++ (cl_X10 g a_W (a_B 0) (a_N 0) u_W ++ (cl_X0 g a_B (a_L 0) u_B ++ (cl_X3 g a_G u_G ++ (cl_X2 g a_F u_F ++ (cl_X1 g a_D u_D ++ (cl_X9 g a_Y (a_W3 0) u_Y ++ (cl_X10 g a_W3 p_W3_0 (a_N3 0) u_W3 ++ (cl_N g a_N3 v_N3 ++ (cl_X10 g a_W2 p_W2_0 (a_N2 0) u_W2 ++ (cl_N g a_N2 v_N2 ++ (cl_N g a_N v_N ++ (cl_X7 g a_Z (a_K 0) (a_R 0) p_Z_4 u_Z ++ (cl_X4 g a_R (a_K 0) p_R_8 u_R ++ (cl_X8 g a_K (a_P 0) u_K ++ (cl_X0 g a_B2 (a_L2 0) u_B2 ++ (cl_X5 g a_L2 u_L2 v_L2 ++ (cl_X5 g a_L u_L v_L ++ (cl_X6 g a_P u_P ++ (cl_X12 g a_M u_M v_M ++ X)))))))))))))))))))) H locs) (hl : lv_has ls 7 [(0, .ref b), (1, .ref (a_T 0)), (2, .ref (a_M 0)), (3, .ref qo), (4, .int x4)]) (kk : ∀ {H : Heap} {locs : List Loc}, WD g A s.heap (cl_X11 g a_T (a_P 0) (a_B 0) (a_B2 0) (a_Z 0) (a_W 0) (a_W2 0) (a_Y 0) (a_D 0) (a_F 0) (a_G 0) u_T ++ (cl_X10 g a_W (a_B 0) (a_N 0) u_W ++ (cl_X0 g a_B (a_L 0) u_B ++ (cl_X3 g a_G u_G ++ (cl_X2 g a_F u_F ++ (cl_X1 g a_D u_D ++ (cl_X9 g a_Y (a_W3 0) u_Y ++ (cl_X10 g a_W3 zq_W3_0 (a_N3 0) zu_W3 ++ (cl_N g a_N3 zv_N3 ++ (cl_X10 g a_W2 p_W2_0 (a_N2 0) u_W2 ++ (cl_N g a_N2 v_N2 ++ (cl_N g a_N v_N ++ (cl_X7 g a_Z (a_K 0) (a_R 0) p_Z_4 u_Z ++ (cl_X4 g a_R (a_K 0) p_R_8 u_R ++ (cl_X8 g a_K (a_P 0) u_K ++ (cl_X0 g a_B2 (a_L2 0) u_B2 ++ (cl_X5 g a_L2 u_L2 v_L2 ++ (cl_X5 g a_L u_L zv_L ++ (cl_X6 g a_P u_P ++ (cl_X12 g a_M zu_M zv_M ++ X)))))))))))))))))))) H locs → lv_has ls 7 [(0, .ref b), (1, .ref (a_T 0)), (2, .ref (a_M 0)), (3, .ref qo), (4, .int x4)] → W p l e room_1 s m #[Value.ref b] below meth c H locs cells slots Q (F0 m 1567 ls [])) : W p l e room_1 s m #[Value.ref b] below meth c H locs cells slots Q (F0 m 816 ls []) := by
  have hx := S.1
  have hb := S.2.1
  refine lv_aload_n hx hb dL_law_816 rfl (lv_at hl 1 rfl) ?_
  refine lv_aload_n hx hb dL_law_817 rfl (lv_at hl 0 rfl) ?_
  refine lv_iload hx hb dL_law_818 (lv_at hl 4 rfl) ?_
  refine lv_iconst (v := 1) hx hb dL_law_820 (by decide) ?_
  refine lv_iadd hx hb dL_law_821 ?_
  refine va_sld hx hb hX hbl hbA hw.2.2 hi1 dL_law_822 ?_
  refine lv_aload_n hx hb dL_law_823 rfl (lv_at hl 0 rfl) ?_
  refine lv_iload hx hb dL_law_824 (lv_at hl 4 rfl) ?_
  refine lv_iconst (v := 2) hx hb dL_law_826 (by decide) ?_
  refine lv_iadd hx hb dL_law_827 ?_
  refine va_sld hx hb hX hbl hbA hw.2.2 hi2 dL_law_828 ?_
  have hw := hw.u8
  have hw := hw.u17
  have hw := hw.u9
  have hw := hw.u9
  have hw := hw.u5
  have hw := hw.u6
  have hw := hw.u6
  refine tx_ci hw (tx_runV S hE hw (c_X11_hideIn hc) lk_L_96 (q0 := 0) rfl rfl rfl hl.1 (rest := []) rfl (Nat.le_of_ble_eq_true rfl) ⟨by decide, by decide⟩ dL_law_829 hcs) (fun H locs hw => ?_)
  refine lv_aload_n hx hb dL_law_832 rfl (lv_at hl 2 rfl) ?_
  refine lv_aload_n hx hb dL_law_833 rfl (lv_at hl 0 rfl) ?_
  refine lv_iload hx hb dL_law_834 (lv_at hl 4 rfl) ?_
  refine lv_iconst (v := 1) hx hb dL_law_836 (by decide) ?_
  refine lv_iadd hx hb dL_law_837 ?_
  refine va_sld hx hb hX hbl hbA hw.2.2 hi1 dL_law_838 ?_
  refine lv_aload_n hx hb dL_law_839 rfl (lv_at hl 0 rfl) ?_
  refine lv_iload hx hb dL_law_840 (lv_at hl 4 rfl) ?_
  refine lv_iconst (v := 2) hx hb dL_law_842 (by decide) ?_
  refine lv_iadd hx hb dL_law_843 ?_
  refine va_sld hx hb hX hbl hbA hw.2.2 hi2 dL_law_844 ?_
  have hw := hw.u19
  refine tx_ci hw (tx_runV S hE hw (c_X12_hideIn hm) lk_L_99 (q0 := 0) rfl rfl rfl hl.1 (rest := [.int r]) rfl (Nat.le_of_ble_eq_true rfl) ⟨by decide, by decide⟩ dL_law_845 hcs) (fun H locs hw => ?_)
  refine lv_icmp_eq (tgt := 1567) hx hb dL_law_848 (by decide) (fun _ => ?_) (fun h => absurd rfl h)
  have hw := hw.u19
  have hw := hw.u7
  have hw := hw.u19
  have hw := hw.u19
  have hw := hw.u19
  have hw := hw.u19
  have hw := hw.u19
  have hw := hw.u19
  have hw := hw.u19
  have hw := hw.u19
  have hw := hw.u16
  have hw := hw.u16
  have hw := hw.u16
  have hw := hw.u19
  have hw := hw.u19
  have hw := hw.u19
  have hw := hw.u18
  have hw := hw.u19
  have hw := hw.u19
  exact kk hw hl
set_option maxHeartbeats 4000000 in
set_option maxRecDepth 100000 in
theorem law_c17 {p : Program} {l : Launch} {e : Env} {s : State} {m : MethodId} {below : List Frame} {meth : Method} {c : Code} {H : Heap} {locs : List Loc} {cells slots : Nat} {Q : State → Prop} {g : GG} {A : Nat → Prop} {X : va_W} {fu : Nat} {b L qo : Nat} {xs : Nat → Int32} {x4 : Int32} {ls : Array Slot} {kc : Cond} {a_T a_W a_B a_G a_F a_D a_Y a_W3 a_N3 a_W2 a_N2 a_N a_Z a_R a_K a_B2 a_L2 a_L a_P a_M : Nat → Nat} {p_W2_0 p_W3_0 p_Z_4 p_R_8 : Nat} {u_T : S32} {u_W : S32} {u_B : S32} {u_G : S32} {u_F : S32} {u_D : S32} {u_Y : S32} {u_W3 : S32} {v_N3 : S64} {u_W2 : S32} {v_N2 : S64} {v_N : S64} {u_Z : S32} {u_R : S32} {u_K : S32} {u_B2 : S32} {u_L2 : S32} {v_L2 : S64} {u_L : S32} {v_L : S64} {u_P : S32} {u_M : S32} {v_M : S64} {r : Int32} {zu_W3 : S32} {zv_L : S64} {zv_N3 : S64} {zq_W3_0 : Nat} {zu_M : S32} {zv_M : S64} (S : CallFix p m c code 7 s #[Value.ref b] (kc :: allW) RL) (hE : EN g A s) (hX : va_X b L xs s s.heap) (hbl : b < s.heap.size) (hbA : ¬ A b) (hcs : cells ≤ room_1.cells ∧ slots ≤ room_1.slots) (hi1 : vp_in (x4 + (1 : Int32)) L) (hi2 : vp_in (x4 + (2 : Int32)) L) (hc : f_X11_bestRate fu u_T u_Y u_W u_B u_L p_W3_0 (a_B 0) u_W3 v_L v_N3 (xs (x4 + (1 : Int32)).toNatClampNeg) (xs (x4 + (2 : Int32)).toNatClampNeg) = some (r, zu_W3, zv_L, zv_N3, zq_W3_0)) (hm : f_X12_bestRate fu u_M v_M (xs (x4 + (1 : Int32)).toNatClampNeg) (xs (x4 + (2 : Int32)).toNatClampNeg) = some (r, zu_M, zv_M)) (hw : WD g A s.heap (cl_X11 g a_T (a_P 0) (a_B 0) (a_B2 0) (a_Z 0) (a_W 0) (a_W2 0) (a_Y 0) (a_D 0) (a_F 0) (a_G 0) u_T ++ (cl_X10 g a_W (a_B 0) (a_N 0) u_W ++ (cl_X0 g a_B (a_L 0) u_B ++ (cl_X3 g a_G u_G ++ (cl_X2 g a_F u_F ++ (cl_X1 g a_D u_D ++ (cl_X9 g a_Y (a_W3 0) u_Y ++ (cl_X10 g a_W3 p_W3_0 (a_N3 0) u_W3 ++ (cl_N g a_N3 v_N3 ++ (cl_X10 g a_W2 p_W2_0 (a_N2 0) u_W2 ++ (cl_N g a_N2 v_N2 ++ (cl_N g a_N v_N ++ (cl_X7 g a_Z (a_K 0) (a_R 0) p_Z_4 u_Z ++ (cl_X4 g a_R (a_K 0) p_R_8 u_R ++ (cl_X8 g a_K (a_P 0) u_K ++ (cl_X0 g a_B2 (a_L2 0) u_B2 ++ (cl_X5 g a_L2 u_L2 v_L2 ++ (cl_X5 g a_L u_L v_L ++ (cl_X6 g a_P u_P ++ (cl_X12 g a_M u_M v_M ++ X)))))))))))))))))))) H locs) (hl : lv_has ls 7 [(0, .ref b), (1, .ref (a_T 0)), (2, .ref (a_M 0)), (3, .ref qo), (4, .int x4)]) (kk : ∀ {H : Heap} {locs : List Loc}, WD g A s.heap (cl_X11 g a_T (a_P 0) (a_B 0) (a_B2 0) (a_Z 0) (a_W 0) (a_W2 0) (a_Y 0) (a_D 0) (a_F 0) (a_G 0) u_T ++ (cl_X10 g a_W (a_B 0) (a_N 0) u_W ++ (cl_X0 g a_B (a_L 0) u_B ++ (cl_X3 g a_G u_G ++ (cl_X2 g a_F u_F ++ (cl_X1 g a_D u_D ++ (cl_X9 g a_Y (a_W3 0) u_Y ++ (cl_X10 g a_W3 zq_W3_0 (a_N3 0) zu_W3 ++ (cl_N g a_N3 zv_N3 ++ (cl_X10 g a_W2 p_W2_0 (a_N2 0) u_W2 ++ (cl_N g a_N2 v_N2 ++ (cl_N g a_N v_N ++ (cl_X7 g a_Z (a_K 0) (a_R 0) p_Z_4 u_Z ++ (cl_X4 g a_R (a_K 0) p_R_8 u_R ++ (cl_X8 g a_K (a_P 0) u_K ++ (cl_X0 g a_B2 (a_L2 0) u_B2 ++ (cl_X5 g a_L2 u_L2 v_L2 ++ (cl_X5 g a_L u_L zv_L ++ (cl_X6 g a_P u_P ++ (cl_X12 g a_M zu_M zv_M ++ X)))))))))))))))))))) H locs → lv_has ls 7 [(0, .ref b), (1, .ref (a_T 0)), (2, .ref (a_M 0)), (3, .ref qo), (4, .int x4)] → W p l e room_1 s m #[Value.ref b] below meth c H locs cells slots Q (F0 m 1567 ls [])) : W p l e room_1 s m #[Value.ref b] below meth c H locs cells slots Q (F0 m 853 ls []) := by
  have hx := S.1
  have hb := S.2.1
  refine lv_aload_n hx hb dL_law_853 rfl (lv_at hl 1 rfl) ?_
  refine lv_aload_n hx hb dL_law_854 rfl (lv_at hl 0 rfl) ?_
  refine lv_iload hx hb dL_law_855 (lv_at hl 4 rfl) ?_
  refine lv_iconst (v := 1) hx hb dL_law_857 (by decide) ?_
  refine lv_iadd hx hb dL_law_858 ?_
  refine va_sld hx hb hX hbl hbA hw.2.2 hi1 dL_law_859 ?_
  refine lv_aload_n hx hb dL_law_860 rfl (lv_at hl 0 rfl) ?_
  refine lv_iload hx hb dL_law_861 (lv_at hl 4 rfl) ?_
  refine lv_iconst (v := 2) hx hb dL_law_863 (by decide) ?_
  refine lv_iadd hx hb dL_law_864 ?_
  refine va_sld hx hb hX hbl hbA hw.2.2 hi2 dL_law_865 ?_
  have hw := hw.u8
  have hw := hw.u17
  have hw := hw.u4
  have hw := hw.u9
  have hw := hw.u5
  have hw := hw.u9
  have hw := hw.u6
  refine tx_ci hw (tx_runV S hE hw (c_X11_bestRate hc) lk_L_100 (q0 := 0) rfl rfl rfl hl.1 (rest := []) rfl (Nat.le_of_ble_eq_true rfl) ⟨by decide, by decide⟩ dL_law_866 hcs) (fun H locs hw => ?_)
  refine lv_aload_n hx hb dL_law_869 rfl (lv_at hl 2 rfl) ?_
  refine lv_aload_n hx hb dL_law_870 rfl (lv_at hl 0 rfl) ?_
  refine lv_iload hx hb dL_law_871 (lv_at hl 4 rfl) ?_
  refine lv_iconst (v := 1) hx hb dL_law_873 (by decide) ?_
  refine lv_iadd hx hb dL_law_874 ?_
  refine va_sld hx hb hX hbl hbA hw.2.2 hi1 dL_law_875 ?_
  refine lv_aload_n hx hb dL_law_876 rfl (lv_at hl 0 rfl) ?_
  refine lv_iload hx hb dL_law_877 (lv_at hl 4 rfl) ?_
  refine lv_iconst (v := 2) hx hb dL_law_879 (by decide) ?_
  refine lv_iadd hx hb dL_law_880 ?_
  refine va_sld hx hb hX hbl hbA hw.2.2 hi2 dL_law_881 ?_
  have hw := hw.u19
  refine tx_ci hw (tx_runV S hE hw (c_X12_bestRate hm) lk_L_103 (q0 := 0) rfl rfl rfl hl.1 (rest := [.int r]) rfl (Nat.le_of_ble_eq_true rfl) ⟨by decide, by decide⟩ dL_law_882 hcs) (fun H locs hw => ?_)
  refine lv_icmp_eq (tgt := 1567) hx hb dL_law_885 (by decide) (fun _ => ?_) (fun h => absurd rfl h)
  have hw := hw.u19
  have hw := hw.u7
  have hw := hw.u19
  have hw := hw.u19
  have hw := hw.u19
  have hw := hw.u19
  have hw := hw.u19
  have hw := hw.u19
  have hw := hw.u19
  have hw := hw.u19
  have hw := hw.u16
  have hw := hw.u15
  have hw := hw.u14
  have hw := hw.u19
  have hw := hw.u19
  have hw := hw.u19
  have hw := hw.u19
  have hw := hw.u19
  have hw := hw.u19
  exact kk hw hl
set_option maxHeartbeats 4000000 in
set_option maxRecDepth 100000 in
theorem law_c18 {p : Program} {l : Launch} {e : Env} {s : State} {m : MethodId} {below : List Frame} {meth : Method} {c : Code} {H : Heap} {locs : List Loc} {cells slots : Nat} {Q : State → Prop} {g : GG} {A : Nat → Prop} {X : va_W} {fu : Nat} {b L qo : Nat} {xs : Nat → Int32} {x4 : Int32} {ls : Array Slot} {kc : Cond} {a_T a_W a_B a_G a_F a_D a_Y a_W3 a_N3 a_W2 a_N2 a_N a_Z a_R a_K a_B2 a_L2 a_L a_P a_M : Nat → Nat} {p_W2_0 p_W3_0 p_Z_4 p_R_8 : Nat} {u_T : S32} {u_W : S32} {u_B : S32} {u_G : S32} {u_F : S32} {u_D : S32} {u_Y : S32} {u_W3 : S32} {v_N3 : S64} {u_W2 : S32} {v_N2 : S64} {v_N : S64} {u_Z : S32} {u_R : S32} {u_K : S32} {u_B2 : S32} {u_L2 : S32} {v_L2 : S64} {u_L : S32} {v_L : S64} {u_P : S32} {u_M : S32} {v_M : S64} {r : Int32} {zu_Y : S32} {zu_W3 : S32} {zv_L : S64} {zv_N3 : S64} {zu_M : S32} {zv_M : S64} (S : CallFix p m c code 7 s #[Value.ref b] (kc :: allW) RL) (hE : EN g A s) (hX : va_X b L xs s s.heap) (hbl : b < s.heap.size) (hbA : ¬ A b) (hcs : cells ≤ room_1.cells ∧ slots ≤ room_1.slots) (hc : f_X11_worthless fu u_T u_W u_B u_L u_Y u_W3 v_L v_N3 = some (r, zu_Y, zu_W3, zv_L, zv_N3)) (hm : f_X12_worthless fu u_M v_M = some (r, zu_M, zv_M)) (hw : WD g A s.heap (cl_X11 g a_T (a_P 0) (a_B 0) (a_B2 0) (a_Z 0) (a_W 0) (a_W2 0) (a_Y 0) (a_D 0) (a_F 0) (a_G 0) u_T ++ (cl_X10 g a_W (a_B 0) (a_N 0) u_W ++ (cl_X0 g a_B (a_L 0) u_B ++ (cl_X3 g a_G u_G ++ (cl_X2 g a_F u_F ++ (cl_X1 g a_D u_D ++ (cl_X9 g a_Y (a_W3 0) u_Y ++ (cl_X10 g a_W3 p_W3_0 (a_N3 0) u_W3 ++ (cl_N g a_N3 v_N3 ++ (cl_X10 g a_W2 p_W2_0 (a_N2 0) u_W2 ++ (cl_N g a_N2 v_N2 ++ (cl_N g a_N v_N ++ (cl_X7 g a_Z (a_K 0) (a_R 0) p_Z_4 u_Z ++ (cl_X4 g a_R (a_K 0) p_R_8 u_R ++ (cl_X8 g a_K (a_P 0) u_K ++ (cl_X0 g a_B2 (a_L2 0) u_B2 ++ (cl_X5 g a_L2 u_L2 v_L2 ++ (cl_X5 g a_L u_L v_L ++ (cl_X6 g a_P u_P ++ (cl_X12 g a_M u_M v_M ++ X)))))))))))))))))))) H locs) (hl : lv_has ls 7 [(0, .ref b), (1, .ref (a_T 0)), (2, .ref (a_M 0)), (3, .ref qo), (4, .int x4)]) (kk : ∀ {H : Heap} {locs : List Loc}, WD g A s.heap (cl_X11 g a_T (a_P 0) (a_B 0) (a_B2 0) (a_Z 0) (a_W 0) (a_W2 0) (a_Y 0) (a_D 0) (a_F 0) (a_G 0) u_T ++ (cl_X10 g a_W (a_B 0) (a_N 0) u_W ++ (cl_X0 g a_B (a_L 0) u_B ++ (cl_X3 g a_G u_G ++ (cl_X2 g a_F u_F ++ (cl_X1 g a_D u_D ++ (cl_X9 g a_Y (a_W3 0) zu_Y ++ (cl_X10 g a_W3 (a_B 0) (a_N3 0) zu_W3 ++ (cl_N g a_N3 zv_N3 ++ (cl_X10 g a_W2 p_W2_0 (a_N2 0) u_W2 ++ (cl_N g a_N2 v_N2 ++ (cl_N g a_N v_N ++ (cl_X7 g a_Z (a_K 0) (a_R 0) p_Z_4 u_Z ++ (cl_X4 g a_R (a_K 0) p_R_8 u_R ++ (cl_X8 g a_K (a_P 0) u_K ++ (cl_X0 g a_B2 (a_L2 0) u_B2 ++ (cl_X5 g a_L2 u_L2 v_L2 ++ (cl_X5 g a_L u_L zv_L ++ (cl_X6 g a_P u_P ++ (cl_X12 g a_M zu_M zv_M ++ X)))))))))))))))))))) H locs → lv_has ls 7 [(0, .ref b), (1, .ref (a_T 0)), (2, .ref (a_M 0)), (3, .ref qo), (4, .int x4)] → W p l e room_1 s m #[Value.ref b] below meth c H locs cells slots Q (F0 m 1567 ls [])) : W p l e room_1 s m #[Value.ref b] below meth c H locs cells slots Q (F0 m 890 ls []) := by
  have hx := S.1
  have hb := S.2.1
  refine lv_aload_n hx hb dL_law_890 rfl (lv_at hl 1 rfl) ?_
  have hw := hw.u8
  have hw := hw.u17
  have hw := hw.u4
  have hw := hw.u9
  have hw := hw.u5
  have hw := hw.u9
  have hw := hw.u6
  refine tx_ci hw (tx_runV S hE hw (c_X11_worthless hc) lk_L_104 (q0 := 0) rfl rfl rfl hl.1 (rest := []) rfl (Nat.le_of_ble_eq_true rfl) ⟨by decide, by decide⟩ dL_law_891 hcs) (fun H locs hw => ?_)
  refine lv_aload_n hx hb dL_law_894 rfl (lv_at hl 2 rfl) ?_
  have hw := hw.u19
  refine tx_ci hw (tx_runV S hE hw (c_X12_worthless hm) lk_L_107 (q0 := 0) rfl rfl rfl hl.1 (rest := [.int r]) rfl (Nat.le_of_ble_eq_true rfl) ⟨by decide, by decide⟩ dL_law_895 hcs) (fun H locs hw => ?_)
  refine lv_icmp_eq (tgt := 1567) hx hb dL_law_898 (by decide) (fun _ => ?_) (fun h => absurd rfl h)
  have hw := hw.u19
  have hw := hw.u7
  have hw := hw.u19
  have hw := hw.u19
  have hw := hw.u19
  have hw := hw.u19
  have hw := hw.u19
  have hw := hw.u19
  have hw := hw.u19
  have hw := hw.u19
  have hw := hw.u16
  have hw := hw.u15
  have hw := hw.u14
  have hw := hw.u19
  have hw := hw.u19
  have hw := hw.u19
  have hw := hw.u19
  have hw := hw.u19
  have hw := hw.u19
  exact kk hw hl
set_option maxHeartbeats 4000000 in
set_option maxRecDepth 100000 in
theorem law_c19 {p : Program} {l : Launch} {e : Env} {s : State} {m : MethodId} {below : List Frame} {meth : Method} {c : Code} {H : Heap} {locs : List Loc} {cells slots : Nat} {Q : State → Prop} {g : GG} {A : Nat → Prop} {X : va_W} {fu : Nat} {b L qo : Nat} {xs : Nat → Int32} {x4 : Int32} {ls : Array Slot} {kc : Cond} {a_T a_W a_B a_G a_F a_D a_Y a_W3 a_N3 a_W2 a_N2 a_N a_Z a_R a_K a_B2 a_L2 a_L a_P a_M : Nat → Nat} {p_W2_0 p_W3_0 p_Z_4 p_R_8 : Nat} {u_T : S32} {u_W : S32} {u_B : S32} {u_G : S32} {u_F : S32} {u_D : S32} {u_Y : S32} {u_W3 : S32} {v_N3 : S64} {u_W2 : S32} {v_N2 : S64} {v_N : S64} {u_Z : S32} {u_R : S32} {u_K : S32} {u_B2 : S32} {u_L2 : S32} {v_L2 : S64} {u_L : S32} {v_L : S64} {u_P : S32} {u_M : S32} {v_M : S64} {r : Int32} {zu_M : S32} (S : CallFix p m c code 7 s #[Value.ref b] (kc :: allW) RL) (hE : EN g A s) (hX : va_X b L xs s s.heap) (hbl : b < s.heap.size) (hbA : ¬ A b) (hcs : cells ≤ room_1.cells ∧ slots ≤ room_1.slots) (hi1 : vp_in (x4 + (1 : Int32)) L) (hi2 : vp_in (x4 + (2 : Int32)) L) (hi3 : vp_in (x4 + (3 : Int32)) L) (hc : f_X11_share fu u_T u_B u_W (xs (x4 + (1 : Int32)).toNatClampNeg) (xs (x4 + (2 : Int32)).toNatClampNeg) (xs (x4 + (3 : Int32)).toNatClampNeg) = some r) (hm : f_X12_share fu v_M u_M (xs (x4 + (1 : Int32)).toNatClampNeg) (xs (x4 + (2 : Int32)).toNatClampNeg) (xs (x4 + (3 : Int32)).toNatClampNeg) = some (r, zu_M)) (hw : WD g A s.heap (cl_X11 g a_T (a_P 0) (a_B 0) (a_B2 0) (a_Z 0) (a_W 0) (a_W2 0) (a_Y 0) (a_D 0) (a_F 0) (a_G 0) u_T ++ (cl_X10 g a_W (a_B 0) (a_N 0) u_W ++ (cl_X0 g a_B (a_L 0) u_B ++ (cl_X3 g a_G u_G ++ (cl_X2 g a_F u_F ++ (cl_X1 g a_D u_D ++ (cl_X9 g a_Y (a_W3 0) u_Y ++ (cl_X10 g a_W3 p_W3_0 (a_N3 0) u_W3 ++ (cl_N g a_N3 v_N3 ++ (cl_X10 g a_W2 p_W2_0 (a_N2 0) u_W2 ++ (cl_N g a_N2 v_N2 ++ (cl_N g a_N v_N ++ (cl_X7 g a_Z (a_K 0) (a_R 0) p_Z_4 u_Z ++ (cl_X4 g a_R (a_K 0) p_R_8 u_R ++ (cl_X8 g a_K (a_P 0) u_K ++ (cl_X0 g a_B2 (a_L2 0) u_B2 ++ (cl_X5 g a_L2 u_L2 v_L2 ++ (cl_X5 g a_L u_L v_L ++ (cl_X6 g a_P u_P ++ (cl_X12 g a_M u_M v_M ++ X)))))))))))))))))))) H locs) (hl : lv_has ls 7 [(0, .ref b), (1, .ref (a_T 0)), (2, .ref (a_M 0)), (3, .ref qo), (4, .int x4)]) (kk : ∀ {H : Heap} {locs : List Loc}, WD g A s.heap (cl_X11 g a_T (a_P 0) (a_B 0) (a_B2 0) (a_Z 0) (a_W 0) (a_W2 0) (a_Y 0) (a_D 0) (a_F 0) (a_G 0) u_T ++ (cl_X10 g a_W (a_B 0) (a_N 0) u_W ++ (cl_X0 g a_B (a_L 0) u_B ++ (cl_X3 g a_G u_G ++ (cl_X2 g a_F u_F ++ (cl_X1 g a_D u_D ++ (cl_X9 g a_Y (a_W3 0) u_Y ++ (cl_X10 g a_W3 p_W3_0 (a_N3 0) u_W3 ++ (cl_N g a_N3 v_N3 ++ (cl_X10 g a_W2 p_W2_0 (a_N2 0) u_W2 ++ (cl_N g a_N2 v_N2 ++ (cl_N g a_N v_N ++ (cl_X7 g a_Z (a_K 0) (a_R 0) p_Z_4 u_Z ++ (cl_X4 g a_R (a_K 0) p_R_8 u_R ++ (cl_X8 g a_K (a_P 0) u_K ++ (cl_X0 g a_B2 (a_L2 0) u_B2 ++ (cl_X5 g a_L2 u_L2 v_L2 ++ (cl_X5 g a_L u_L v_L ++ (cl_X6 g a_P u_P ++ (cl_X12 g a_M zu_M v_M ++ X)))))))))))))))))))) H locs → lv_has ls 7 [(0, .ref b), (1, .ref (a_T 0)), (2, .ref (a_M 0)), (3, .ref qo), (4, .int x4)] → W p l e room_1 s m #[Value.ref b] below meth c H locs cells slots Q (F0 m 1567 ls [])) : W p l e room_1 s m #[Value.ref b] below meth c H locs cells slots Q (F0 m 903 ls []) := by
  have hx := S.1
  have hb := S.2.1
  refine lv_aload_n hx hb dL_law_903 rfl (lv_at hl 1 rfl) ?_
  refine lv_aload_n hx hb dL_law_904 rfl (lv_at hl 0 rfl) ?_
  refine lv_iload hx hb dL_law_905 (lv_at hl 4 rfl) ?_
  refine lv_iconst (v := 1) hx hb dL_law_907 (by decide) ?_
  refine lv_iadd hx hb dL_law_908 ?_
  refine va_sld hx hb hX hbl hbA hw.2.2 hi1 dL_law_909 ?_
  refine lv_aload_n hx hb dL_law_910 rfl (lv_at hl 0 rfl) ?_
  refine lv_iload hx hb dL_law_911 (lv_at hl 4 rfl) ?_
  refine lv_iconst (v := 2) hx hb dL_law_913 (by decide) ?_
  refine lv_iadd hx hb dL_law_914 ?_
  refine va_sld hx hb hX hbl hbA hw.2.2 hi2 dL_law_915 ?_
  refine lv_aload_n hx hb dL_law_916 rfl (lv_at hl 0 rfl) ?_
  refine lv_iload hx hb dL_law_917 (lv_at hl 4 rfl) ?_
  refine lv_iconst (v := 3) hx hb dL_law_919 (by decide) ?_
  refine lv_iadd hx hb dL_law_920 ?_
  refine va_sld hx hb hX hbl hbA hw.2.2 hi3 dL_law_921 ?_
  have hw := hw.u1
  have hw := hw.u2
  have hw := hw.u2
  refine tx_ci hw (tx_runV S hE hw (c_X11_share hc) lk_L_108 (q0 := 0) rfl rfl rfl hl.1 (rest := []) rfl (Nat.le_of_ble_eq_true rfl) ⟨by decide, by decide⟩ dL_law_922 hcs) (fun H locs hw => ?_)
  refine lv_aload_n hx hb dL_law_925 rfl (lv_at hl 2 rfl) ?_
  refine lv_aload_n hx hb dL_law_926 rfl (lv_at hl 0 rfl) ?_
  refine lv_iload hx hb dL_law_927 (lv_at hl 4 rfl) ?_
  refine lv_iconst (v := 1) hx hb dL_law_929 (by decide) ?_
  refine lv_iadd hx hb dL_law_930 ?_
  refine va_sld hx hb hX hbl hbA hw.2.2 hi1 dL_law_931 ?_
  refine lv_aload_n hx hb dL_law_932 rfl (lv_at hl 0 rfl) ?_
  refine lv_iload hx hb dL_law_933 (lv_at hl 4 rfl) ?_
  refine lv_iconst (v := 2) hx hb dL_law_935 (by decide) ?_
  refine lv_iadd hx hb dL_law_936 ?_
  refine va_sld hx hb hX hbl hbA hw.2.2 hi2 dL_law_937 ?_
  refine lv_aload_n hx hb dL_law_938 rfl (lv_at hl 0 rfl) ?_
  refine lv_iload hx hb dL_law_939 (lv_at hl 4 rfl) ?_
  refine lv_iconst (v := 3) hx hb dL_law_941 (by decide) ?_
  refine lv_iadd hx hb dL_law_942 ?_
  refine va_sld hx hb hX hbl hbA hw.2.2 hi3 dL_law_943 ?_
  have hw := hw.u19
  refine tx_ci hw (tx_runV S hE hw (c_X12_share hm) lk_L_112 (q0 := 0) rfl rfl rfl hl.1 (rest := [.int r]) rfl (Nat.le_of_ble_eq_true rfl) ⟨by decide, by decide⟩ dL_law_944 hcs) (fun H locs hw => ?_)
  refine lv_icmp_eq (tgt := 1567) hx hb dL_law_947 (by decide) (fun _ => ?_) (fun h => absurd rfl h)
  have hw := hw.u19
  have hw := hw.u19
  have hw := hw.u19
  have hw := hw.u19
  have hw := hw.u19
  have hw := hw.u19
  have hw := hw.u19
  have hw := hw.u19
  have hw := hw.u19
  have hw := hw.u19
  have hw := hw.u19
  have hw := hw.u19
  have hw := hw.u19
  have hw := hw.u19
  have hw := hw.u19
  have hw := hw.u19
  have hw := hw.u18
  have hw := hw.u19
  have hw := hw.u19
  exact kk hw hl
set_option maxHeartbeats 4000000 in
set_option maxRecDepth 100000 in
theorem law_c20 {p : Program} {l : Launch} {e : Env} {s : State} {m : MethodId} {below : List Frame} {meth : Method} {c : Code} {H : Heap} {locs : List Loc} {cells slots : Nat} {Q : State → Prop} {g : GG} {A : Nat → Prop} {X : va_W} {fu : Nat} {b L qo : Nat} {xs : Nat → Int32} {x4 : Int32} {ls : Array Slot} {kc : Cond} {a_T a_W a_B a_G a_F a_D a_Y a_W3 a_N3 a_W2 a_N2 a_N a_Z a_R a_K a_B2 a_L2 a_L a_P a_M : Nat → Nat} {p_W2_0 p_W3_0 p_Z_4 p_R_8 : Nat} {u_T : S32} {u_W : S32} {u_B : S32} {u_G : S32} {u_F : S32} {u_D : S32} {u_Y : S32} {u_W3 : S32} {v_N3 : S64} {u_W2 : S32} {v_N2 : S64} {v_N : S64} {u_Z : S32} {u_R : S32} {u_K : S32} {u_B2 : S32} {u_L2 : S32} {v_L2 : S64} {u_L : S32} {v_L : S64} {u_P : S32} {u_M : S32} {v_M : S64} {r : Int32} {zu_M : S32} (S : CallFix p m c code 7 s #[Value.ref b] (kc :: allW) RL) (hE : EN g A s) (hX : va_X b L xs s s.heap) (hbl : b < s.heap.size) (hbA : ¬ A b) (hcs : cells ≤ room_1.cells ∧ slots ≤ room_1.slots) (hi1 : vp_in (x4 + (1 : Int32)) L) (hc : f_X11_chain fu u_T u_B u_W (xs (x4 + (1 : Int32)).toNatClampNeg) = some r) (hm : f_X12_chain fu v_M u_M (xs (x4 + (1 : Int32)).toNatClampNeg) = some (r, zu_M)) (hw : WD g A s.heap (cl_X11 g a_T (a_P 0) (a_B 0) (a_B2 0) (a_Z 0) (a_W 0) (a_W2 0) (a_Y 0) (a_D 0) (a_F 0) (a_G 0) u_T ++ (cl_X10 g a_W (a_B 0) (a_N 0) u_W ++ (cl_X0 g a_B (a_L 0) u_B ++ (cl_X3 g a_G u_G ++ (cl_X2 g a_F u_F ++ (cl_X1 g a_D u_D ++ (cl_X9 g a_Y (a_W3 0) u_Y ++ (cl_X10 g a_W3 p_W3_0 (a_N3 0) u_W3 ++ (cl_N g a_N3 v_N3 ++ (cl_X10 g a_W2 p_W2_0 (a_N2 0) u_W2 ++ (cl_N g a_N2 v_N2 ++ (cl_N g a_N v_N ++ (cl_X7 g a_Z (a_K 0) (a_R 0) p_Z_4 u_Z ++ (cl_X4 g a_R (a_K 0) p_R_8 u_R ++ (cl_X8 g a_K (a_P 0) u_K ++ (cl_X0 g a_B2 (a_L2 0) u_B2 ++ (cl_X5 g a_L2 u_L2 v_L2 ++ (cl_X5 g a_L u_L v_L ++ (cl_X6 g a_P u_P ++ (cl_X12 g a_M u_M v_M ++ X)))))))))))))))))))) H locs) (hl : lv_has ls 7 [(0, .ref b), (1, .ref (a_T 0)), (2, .ref (a_M 0)), (3, .ref qo), (4, .int x4)]) (kk : ∀ {H : Heap} {locs : List Loc}, WD g A s.heap (cl_X11 g a_T (a_P 0) (a_B 0) (a_B2 0) (a_Z 0) (a_W 0) (a_W2 0) (a_Y 0) (a_D 0) (a_F 0) (a_G 0) u_T ++ (cl_X10 g a_W (a_B 0) (a_N 0) u_W ++ (cl_X0 g a_B (a_L 0) u_B ++ (cl_X3 g a_G u_G ++ (cl_X2 g a_F u_F ++ (cl_X1 g a_D u_D ++ (cl_X9 g a_Y (a_W3 0) u_Y ++ (cl_X10 g a_W3 p_W3_0 (a_N3 0) u_W3 ++ (cl_N g a_N3 v_N3 ++ (cl_X10 g a_W2 p_W2_0 (a_N2 0) u_W2 ++ (cl_N g a_N2 v_N2 ++ (cl_N g a_N v_N ++ (cl_X7 g a_Z (a_K 0) (a_R 0) p_Z_4 u_Z ++ (cl_X4 g a_R (a_K 0) p_R_8 u_R ++ (cl_X8 g a_K (a_P 0) u_K ++ (cl_X0 g a_B2 (a_L2 0) u_B2 ++ (cl_X5 g a_L2 u_L2 v_L2 ++ (cl_X5 g a_L u_L v_L ++ (cl_X6 g a_P u_P ++ (cl_X12 g a_M zu_M v_M ++ X)))))))))))))))))))) H locs → lv_has ls 7 [(0, .ref b), (1, .ref (a_T 0)), (2, .ref (a_M 0)), (3, .ref qo), (4, .int x4)] → W p l e room_1 s m #[Value.ref b] below meth c H locs cells slots Q (F0 m 1567 ls [])) : W p l e room_1 s m #[Value.ref b] below meth c H locs cells slots Q (F0 m 952 ls []) := by
  have hx := S.1
  have hb := S.2.1
  refine lv_aload_n hx hb dL_law_952 rfl (lv_at hl 1 rfl) ?_
  refine lv_aload_n hx hb dL_law_953 rfl (lv_at hl 0 rfl) ?_
  refine lv_iload hx hb dL_law_954 (lv_at hl 4 rfl) ?_
  refine lv_iconst (v := 1) hx hb dL_law_956 (by decide) ?_
  refine lv_iadd hx hb dL_law_957 ?_
  refine va_sld hx hb hX hbl hbA hw.2.2 hi1 dL_law_958 ?_
  have hw := hw.u1
  have hw := hw.u2
  have hw := hw.u2
  refine tx_ci hw (tx_runV S hE hw (c_X11_chain hc) lk_L_113 (q0 := 0) rfl rfl rfl hl.1 (rest := []) rfl (Nat.le_of_ble_eq_true rfl) ⟨by decide, by decide⟩ dL_law_959 hcs) (fun H locs hw => ?_)
  refine lv_aload_n hx hb dL_law_962 rfl (lv_at hl 2 rfl) ?_
  refine lv_aload_n hx hb dL_law_963 rfl (lv_at hl 0 rfl) ?_
  refine lv_iload hx hb dL_law_964 (lv_at hl 4 rfl) ?_
  refine lv_iconst (v := 1) hx hb dL_law_966 (by decide) ?_
  refine lv_iadd hx hb dL_law_967 ?_
  refine va_sld hx hb hX hbl hbA hw.2.2 hi1 dL_law_968 ?_
  have hw := hw.u19
  refine tx_ci hw (tx_runV S hE hw (c_X12_chain hm) lk_L_116 (q0 := 0) rfl rfl rfl hl.1 (rest := [.int r]) rfl (Nat.le_of_ble_eq_true rfl) ⟨by decide, by decide⟩ dL_law_969 hcs) (fun H locs hw => ?_)
  refine lv_icmp_eq (tgt := 1567) hx hb dL_law_972 (by decide) (fun _ => ?_) (fun h => absurd rfl h)
  have hw := hw.u19
  have hw := hw.u19
  have hw := hw.u19
  have hw := hw.u19
  have hw := hw.u19
  have hw := hw.u19
  have hw := hw.u19
  have hw := hw.u19
  have hw := hw.u19
  have hw := hw.u19
  have hw := hw.u19
  have hw := hw.u19
  have hw := hw.u19
  have hw := hw.u19
  have hw := hw.u19
  have hw := hw.u19
  have hw := hw.u18
  have hw := hw.u19
  have hw := hw.u19
  exact kk hw hl
set_option maxHeartbeats 4000000 in
set_option maxRecDepth 100000 in
theorem law_c21 {p : Program} {l : Launch} {e : Env} {s : State} {m : MethodId} {below : List Frame} {meth : Method} {c : Code} {H : Heap} {locs : List Loc} {cells slots : Nat} {Q : State → Prop} {g : GG} {A : Nat → Prop} {X : va_W} {fu : Nat} {b L qo : Nat} {xs : Nat → Int32} {x4 : Int32} {ls : Array Slot} {kc : Cond} {a_T a_W a_B a_G a_F a_D a_Y a_W3 a_N3 a_W2 a_N2 a_N a_Z a_R a_K a_B2 a_L2 a_L a_P a_M : Nat → Nat} {p_W2_0 p_W3_0 p_Z_4 p_R_8 : Nat} {u_T : S32} {u_W : S32} {u_B : S32} {u_G : S32} {u_F : S32} {u_D : S32} {u_Y : S32} {u_W3 : S32} {v_N3 : S64} {u_W2 : S32} {v_N2 : S64} {v_N : S64} {u_Z : S32} {u_R : S32} {u_K : S32} {u_B2 : S32} {u_L2 : S32} {v_L2 : S64} {u_L : S32} {v_L : S64} {u_P : S32} {u_M : S32} {v_M : S64} {r : Int32} {zu_G : S32} {zu_M : S32} (S : CallFix p m c code 7 s #[Value.ref b] (kc :: allW) RL) (hE : EN g A s) (hX : va_X b L xs s s.heap) (hbl : b < s.heap.size) (hbA : ¬ A b) (hcs : cells ≤ room_1.cells ∧ slots ≤ room_1.slots) (hc : f_X11_rests fu u_T u_W u_B u_G = some (r, zu_G)) (hm : f_X12_rests fu v_M u_M = some (r, zu_M)) (hw : WD g A s.heap (cl_X11 g a_T (a_P 0) (a_B 0) (a_B2 0) (a_Z 0) (a_W 0) (a_W2 0) (a_Y 0) (a_D 0) (a_F 0) (a_G 0) u_T ++ (cl_X10 g a_W (a_B 0) (a_N 0) u_W ++ (cl_X0 g a_B (a_L 0) u_B ++ (cl_X3 g a_G u_G ++ (cl_X2 g a_F u_F ++ (cl_X1 g a_D u_D ++ (cl_X9 g a_Y (a_W3 0) u_Y ++ (cl_X10 g a_W3 p_W3_0 (a_N3 0) u_W3 ++ (cl_N g a_N3 v_N3 ++ (cl_X10 g a_W2 p_W2_0 (a_N2 0) u_W2 ++ (cl_N g a_N2 v_N2 ++ (cl_N g a_N v_N ++ (cl_X7 g a_Z (a_K 0) (a_R 0) p_Z_4 u_Z ++ (cl_X4 g a_R (a_K 0) p_R_8 u_R ++ (cl_X8 g a_K (a_P 0) u_K ++ (cl_X0 g a_B2 (a_L2 0) u_B2 ++ (cl_X5 g a_L2 u_L2 v_L2 ++ (cl_X5 g a_L u_L v_L ++ (cl_X6 g a_P u_P ++ (cl_X12 g a_M u_M v_M ++ X)))))))))))))))))))) H locs) (hl : lv_has ls 7 [(0, .ref b), (1, .ref (a_T 0)), (2, .ref (a_M 0)), (3, .ref qo), (4, .int x4)]) (kk : ∀ {H : Heap} {locs : List Loc}, WD g A s.heap (cl_X11 g a_T (a_P 0) (a_B 0) (a_B2 0) (a_Z 0) (a_W 0) (a_W2 0) (a_Y 0) (a_D 0) (a_F 0) (a_G 0) u_T ++ (cl_X10 g a_W (a_B 0) (a_N 0) u_W ++ (cl_X0 g a_B (a_L 0) u_B ++ (cl_X3 g a_G zu_G ++ (cl_X2 g a_F u_F ++ (cl_X1 g a_D u_D ++ (cl_X9 g a_Y (a_W3 0) u_Y ++ (cl_X10 g a_W3 p_W3_0 (a_N3 0) u_W3 ++ (cl_N g a_N3 v_N3 ++ (cl_X10 g a_W2 p_W2_0 (a_N2 0) u_W2 ++ (cl_N g a_N2 v_N2 ++ (cl_N g a_N v_N ++ (cl_X7 g a_Z (a_K 0) (a_R 0) p_Z_4 u_Z ++ (cl_X4 g a_R (a_K 0) p_R_8 u_R ++ (cl_X8 g a_K (a_P 0) u_K ++ (cl_X0 g a_B2 (a_L2 0) u_B2 ++ (cl_X5 g a_L2 u_L2 v_L2 ++ (cl_X5 g a_L u_L v_L ++ (cl_X6 g a_P u_P ++ (cl_X12 g a_M zu_M v_M ++ X)))))))))))))))))))) H locs → lv_has ls 7 [(0, .ref b), (1, .ref (a_T 0)), (2, .ref (a_M 0)), (3, .ref qo), (4, .int x4)] → W p l e room_1 s m #[Value.ref b] below meth c H locs cells slots Q (F0 m 1567 ls [])) : W p l e room_1 s m #[Value.ref b] below meth c H locs cells slots Q (F0 m 977 ls []) := by
  have hx := S.1
  have hb := S.2.1
  refine lv_aload_n hx hb dL_law_977 rfl (lv_at hl 1 rfl) ?_
  refine tx_ci hw (tx_runV S hE hw (c_X11_rests hc) lk_L_117 (q0 := 0) rfl rfl rfl hl.1 (rest := []) rfl (Nat.le_of_ble_eq_true rfl) ⟨by decide, by decide⟩ dL_law_978 hcs) (fun H locs hw => ?_)
  refine lv_aload_n hx hb dL_law_981 rfl (lv_at hl 2 rfl) ?_
  have hw := hw.u19
  refine tx_ci hw (tx_runV S hE hw (c_X12_rests hm) lk_L_120 (q0 := 0) rfl rfl rfl hl.1 (rest := [.int r]) rfl (Nat.le_of_ble_eq_true rfl) ⟨by decide, by decide⟩ dL_law_982 hcs) (fun H locs hw => ?_)
  refine lv_icmp_eq (tgt := 1567) hx hb dL_law_985 (by decide) (fun _ => ?_) (fun h => absurd rfl h)
  have hw := hw.u19
  have hw := hw.u19
  have hw := hw.u19
  have hw := hw.u19
  have hw := hw.u19
  have hw := hw.u19
  have hw := hw.u19
  have hw := hw.u19
  have hw := hw.u19
  have hw := hw.u19
  have hw := hw.u19
  have hw := hw.u19
  have hw := hw.u19
  have hw := hw.u19
  have hw := hw.u19
  have hw := hw.u19
  have hw := hw.u19
  have hw := hw.u19
  have hw := hw.u19
  exact kk hw hl
