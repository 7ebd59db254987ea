def f_X12_waitsFor (fu : Nat) (v_T : S64) (u_T : S32) (x1 : Int32) : Option (S32) := tx_ck (u_T 0 40) 96 <| tx_let (up2 u_T 39 (u_T 0 40).toNatClampNeg x1) fun (u_T_2 : S32) => tx_let (up2 u_T_2 0 40 ((u_T_2 0 40) + (1 : Int32))) fun (u_T_3 : S32) => some u_T_3
set_option maxHeartbeats 4000000 in
set_option maxRecDepth 100000 in
theorem c_X12_waitsFor {l : Launch} {g : GG} {A : Nat → Prop} {X : va_W} {fu : Nat} {a_T : Nat → Nat} {u_T : S32} {v_T : S64} {x1 : Int32} {zu_T : S32} (hf : f_X12_waitsFor fu v_T u_T x1 = some zu_T) : MV l yX12_waitsFor cX12_waitsFor 2 none 0 g A (cl_X12 g a_T u_T v_T ++ X) [.ref (a_T 0), .int x1] (cl_X12 g a_T zu_T v_T ++ X) := by
  refine tx_start (av := [.ref (a_T 0), .int x1]) (by decide) (Nat.le_of_ble_eq_true rfl) ?_
  intro p e s m below meth c ls S hr hlk hE hw hl
  have S : CallFix p m c cX12_waitsFor 2 s (List.toArray [.ref (a_T 0), .int x1]) (Cond.code yX12_waitsFor cX12_waitsFor 2 none :: allW) RX12 := S
  have hx := S.1
  have hb := S.2.1
  have hown := S.2.2.2.1
  have hts : ∀ w ∈ allW, w.before (List.toArray [.ref (a_T 0), .int x1]) s = true := fun w h => S.2.2.2.2 w (List.mem_cons_of_mem _ h)
  have hl : lv_has ls 2 [(0, .ref (a_T 0)), (1, .int x1)] := hl
  unfold f_X12_waitsFor at hf
  refine lv_aload_n hx hb dX12_waitsFor_0 rfl (lv_at hl 0 rfl) ?_
  refine gf_X12_75 S hE hw 0 rfl rfl dX12_waitsFor_1 ?_
  refine lv_aload_n hx hb dX12_waitsFor_4 rfl (lv_at hl 0 rfl) ?_
  refine gf_X12_271 S hE hw 0 rfl rfl dX12_waitsFor_5 ?_
  refine lv_iload_n hx hb dX12_waitsFor_8 rfl (lv_at hl 1 rfl) ?_
  obtain ⟨h_1, hf⟩ := tx_ck_e hf
  obtain ⟨u_T_2, eu_T_2⟩ : ∃ z : S32, z = up2 u_T 39 (u_T 0 40).toNatClampNeg x1 := ⟨_, rfl⟩
  replace hf := tx_let_e hf eu_T_2
  refine tx_iast (ws' := cl_X12 g a_T u_T_2 v_T ++ X) S hE hw 21 rfl h_1 (by rw [eu_T_2]; rfl) dX12_waitsFor_9 (fun H locs hw => ?_)
  refine lv_aload_n hx hb dX12_waitsFor_10 rfl (lv_at hl 0 rfl) ?_
  refine lv_dup hx hb dX12_waitsFor_11 rfl ?_
  refine gf_X12_271 S hE hw 0 rfl rfl dX12_waitsFor_12 ?_
  refine lv_iconst (v := 1) hx hb dX12_waitsFor_15 (by decide) ?_
  refine lv_iadd hx hb dX12_waitsFor_16 ?_
  obtain ⟨u_T_3, eu_T_3⟩ : ∃ z : S32, z = up2 u_T_2 0 40 ((u_T_2 0 40) + (1 : Int32)) := ⟨_, rfl⟩
  replace hf := tx_let_e hf eu_T_3
  refine pf_X12_271 (ws' := cl_X12 g a_T u_T_3 v_T ++ X) S hE hw rfl rfl 0 rfl (Nat.le_of_ble_eq_true rfl) (by rw [eu_T_3]; rfl) dX12_waitsFor_17 (fun H locs hw => ?_)
  obtain e0 := tx_in1 hf
  rw [← e0]
  exact tx_vret S hr hlk hw dX12_waitsFor_20
def f_X12_signs_J250 (fu : Nat) (v_T : S64) (u_T : S32) (t1 : Int32) : Option (Int32 × S32) := tx_bz t1 <| tx_let (up2 u_T 0 45 t1) fun (u_T_65 : S32) => tx_b1 (f_X12_token fu v_T u_T_65) fun (u_T_67 : S32) => some ((1 : Int32), u_T_67)
def f_X12_signs_J217 (fu : Nat) (v_T : S64) (u_T : S32) (w1 : Int32) : Option (Int32 × S32) := tx_b2 (f_X12_isCounted fu v_T u_T) fun (r_55 : Int32) (u_T_56 : S32) => if r_55 = (0 : Int32) then (some ((0 : Int32), u_T_56)) else (tx_b1 (f_X12_waitsFor fu v_T u_T_56 w1) fun (u_T_59 : S32) => tx_let (up2 u_T_59 0 44 (1 : Int32)) fun (u_T_60 : S32) => tx_b1 (f_X12_rank fu w1) fun (r_62 : Int32) => if (3 : Int32) ≤ r_62 then (f_X12_signs_J250 fu v_T u_T_60 (0 : Int32)) else (f_X12_signs_J250 fu v_T u_T_60 (1 : Int32)))
def f_X12_signs_J175 (fu : Nat) (v_T : S64) (u_T : S32) (w1 : Int32) (t1 : Int32) : Option (Int32 × S32) := tx_b1 (f_X12_bind fu v_T u_T t1) fun (u_T_41 : S32) => tx_b1 (f_X12_rank fu w1) fun (r_43 : Int32) => if r_43 = (4 : Int32) then (if (u_T_41 0 40) ≤ (0 : Int32) then (f_X12_signs_J217 fu v_T u_T_41 w1) else (tx_ck ((u_T_41 0 40) - (1 : Int32)) 96 <| tx_b1 (f_X12_rank fu (u_T_41 39 ((u_T_41 0 40) - (1 : Int32)).toNatClampNeg)) fun (r_48 : Int32) => if r_48 = (4 : Int32) then (tx_b2 (f_X12_wrong fu v_T u_T_41 (1 : Int32)) fun (r_51 : Int32) (u_T_52 : S32) => tx_bz r_51 <| some (r_51, u_T_52)) else (f_X12_signs_J217 fu v_T u_T_41 w1))) else (f_X12_signs_J217 fu v_T u_T_41 w1)
def f_X12_signs_J147 (fu : Nat) (v_T : S64) (u_T : S32) (t0 : Int32) : Option (Int32 × S32) := if t0 = (0 : Int32) then (tx_b2 (f_X12_wrong fu v_T u_T (1 : Int32)) fun (r_37 : Int32) (u_T_38 : S32) => tx_bz r_37 <| some (r_37, u_T_38)) else (tx_b1 (f_X12_rank fu t0) fun (r_32 : Int32) => if r_32 = (4 : Int32) then (f_X12_signs_J175 fu v_T u_T t0 (5 : Int32)) else (tx_b1 (f_X12_rank fu t0) fun (r_35 : Int32) => f_X12_signs_J175 fu v_T u_T t0 r_35))
def f_X12_signs_J47 (fu : Nat) (v_T : S64) (u_T : S32) : Option (Int32 × S32) := tx_b1 (f_X12_isKey fu u_T v_T (10 : Int32)) fun (r_12 : Int32) => if r_12 = (0 : Int32) then (tx_b1 (f_X12_isKey fu u_T v_T (11 : Int32)) fun (r_15 : Int32) => if r_15 = (0 : Int32) then (if (u_T 0 8) = (5 : Int32) then (f_X12_signs_J147 fu v_T u_T ((5 : Int32) + (u_T 0 9))) else (tx_b1 (f_X12_isSign fu u_T v_T (43 : Int32)) fun (r_19 : Int32) => if r_19 = (0 : Int32) then (tx_b1 (f_X12_isSign fu u_T v_T (45 : Int32)) fun (r_22 : Int32) => if r_22 = (0 : Int32) then (tx_b1 (f_X12_isSign fu u_T v_T (42 : Int32)) fun (r_25 : Int32) => if r_25 = (0 : Int32) then (tx_b1 (f_X12_isSign fu u_T v_T (47 : Int32)) fun (r_28 : Int32) => if r_28 = (0 : Int32) then (f_X12_signs_J147 fu v_T u_T (0 : Int32)) else (f_X12_signs_J147 fu v_T u_T (14 : Int32))) else (f_X12_signs_J147 fu v_T u_T (13 : Int32))) else (f_X12_signs_J147 fu v_T u_T (12 : Int32))) else (f_X12_signs_J147 fu v_T u_T (11 : Int32)))) else (f_X12_signs_J147 fu v_T u_T (4 : Int32))) else (f_X12_signs_J147 fu v_T u_T (3 : Int32))
def f_X12_signs (fu : Nat) (v_T : S64) (u_T : S32) : Option (Int32 × S32) := tx_b1 (f_X12_isSign fu u_T v_T (41 : Int32)) fun (r_2 : Int32) => if r_2 = (0 : Int32) then (f_X12_signs_J47 fu v_T u_T) else (if (u_T 0 42) ≤ (0 : Int32) then (f_X12_signs_J47 fu v_T u_T) else (tx_b1 (f_X12_bind fu v_T u_T (1 : Int32)) fun (u_T_6 : S32) => tx_let (up2 u_T_6 0 40 ((u_T_6 0 40) - (1 : Int32))) fun (u_T_7 : S32) => tx_let (up2 u_T_7 0 42 ((u_T_7 0 42) - (1 : Int32))) fun (u_T_8 : S32) => tx_b1 (f_X12_token fu v_T u_T_8) fun (u_T_10 : S32) => some ((1 : Int32), u_T_10)))
set_option maxHeartbeats 4000000 in
set_option maxRecDepth 100000 in
theorem c_X12_signs {l : Launch} {g : GG} {A : Nat → Prop} {X : va_W} {fu : Nat} {a_T : Nat → Nat} {u_T : S32} {v_T : S64} {r : Int32} {zu_T : S32} (hf : f_X12_signs fu v_T u_T = some (r, zu_T)) : MI l yX12_signs cX12_signs 2 (some .boolean) 2 g A (cl_X12 g a_T u_T v_T ++ X) [.ref (a_T 0)] r (cl_X12 g a_T zu_T v_T ++ X) := by
  refine tx_start (av := [.ref (a_T 0)]) (by decide) (Nat.le_of_ble_eq_true rfl) ?_
  intro p e s m below meth c ls S hr hlk hE hw hl
  have S : CallFix p m c cX12_signs 2 s (List.toArray [.ref (a_T 0)]) (Cond.code yX12_signs cX12_signs 2 (some .boolean) :: allW) RX12 := S
  have hx := S.1
  have hb := S.2.1
  have hown := S.2.2.2.1
  have hts : ∀ w ∈ allW, w.before (List.toArray [.ref (a_T 0)]) s = true := fun w h => S.2.2.2.2 w (List.mem_cons_of_mem _ h)
  have hl : lv_has ls 2 [(0, .ref (a_T 0))] := hl
  have J250 : ∀ {u_T : S32} {t1 : Int32} {H : Heap} {locs : List Loc} {ls : Array Slot}, f_X12_signs_J250 fu v_T u_T t1 = some (r, zu_T) → WD g A s.heap (cl_X12 g a_T u_T v_T ++ X) H locs → lv_has ls 2 [(0, .ref (a_T 0))] → W p l e (rmH 2) s m (List.toArray [.ref (a_T 0)]) below meth c H locs 0 0 (MQ below (va_Qi (fun r2 (_ : Unit) => r2 = r) (fun _ t => POST g A (cl_X12 g a_T zu_T v_T ++ X) t) A) (List.toArray [.ref (a_T 0)]) s 0 0 A) (F0 m 250 ls [.int t1, .ref (a_T 0)]) := by
    intro u_T t1 H locs ls hf hw hl
    unfold f_X12_signs_J250 at hf
    obtain ⟨h_64, hf⟩ := tx_bz_e hf
    obtain ⟨u_T_65, eu_T_65⟩ : ∃ z : S32, z = up2 u_T 0 45 t1 := ⟨_, rfl⟩
    replace hf := tx_let_e hf eu_T_65
    refine pf_X12_293 (ws' := cl_X12 g a_T u_T_65 v_T ++ X) S hE hw (tx_bz_n h_64) (tx_bz_f h_64) 0 rfl (Nat.le_of_ble_eq_true rfl) (by rw [eu_T_65]; rfl) dX12_signs_250 (fun H locs hw => ?_)
    refine lv_aload_n hx hb dX12_signs_253 rfl (lv_at hl 0 rfl) ?_
    obtain ⟨u_T_67, h_66, hf⟩ := tx_b1_e hf
    refine tx_cv hw (tx_runV S hE hw (c_X12_token h_66) lk_X12_197 (q0 := 0) rfl rfl rfl hl.1 (rest := []) rfl (Nat.le_of_ble_eq_true rfl) ⟨by decide, by decide⟩ dX12_signs_254 ⟨Nat.zero_le _, Nat.zero_le _⟩) (fun H locs hw => ?_)
    refine lv_iconst (v := 1) hx hb dX12_signs_257 (by decide) ?_
    obtain ⟨e0, e1⟩ := tx_in2 hf
    rw [← e0, ← e1]
    exact tx_zret S hr hlk (by decide) hw dX12_signs_258
  have J217 : ∀ {u_T : S32} {w1 : Int32} {H : Heap} {locs : List Loc} {ls : Array Slot}, f_X12_signs_J217 fu v_T u_T w1 = some (r, zu_T) → WD g A s.heap (cl_X12 g a_T u_T v_T ++ X) H locs → lv_has ls 2 [(0, .ref (a_T 0)), (1, .int w1)] → W p l e (rmH 2) s m (List.toArray [.ref (a_T 0)]) below meth c H locs 0 0 (MQ below (va_Qi (fun r2 (_ : Unit) => r2 = r) (fun _ t => POST g A (cl_X12 g a_T zu_T v_T ++ X) t) A) (List.toArray [.ref (a_T 0)]) s 0 0 A) (F0 m 217 ls []) := by
    intro u_T w1 H locs ls hf hw hl
    unfold f_X12_signs_J217 at hf
    refine lv_aload_n hx hb dX12_signs_217 rfl (lv_at hl 0 rfl) ?_
    obtain ⟨r_55, u_T_56, h_54, hf⟩ := tx_b2_e hf
    refine tx_ci hw (tx_runV S hE hw (c_X12_isCounted h_54) lk_X12_300 (q0 := 0) rfl rfl rfl hl.1 (rest := []) rfl (Nat.le_of_ble_eq_true rfl) ⟨by decide, by decide⟩ dX12_signs_218 ⟨Nat.zero_le _, Nat.zero_le _⟩) (fun H locs hw => ?_)
    refine lv_if_ne (tgt := 226) hx hb dX12_signs_221 (by decide) (fun h_57 => ?_) (fun h_57 => ?_)
    · replace hf := tx_neg hf h_57
      refine lv_aload_n hx hb dX12_signs_226 rfl (lv_at hl 0 rfl) ?_
      refine lv_iload_n hx hb dX12_signs_227 rfl (lv_at hl 1 rfl) ?_
      obtain ⟨u_T_59, h_58, hf⟩ := tx_b1_e hf
      refine tx_cv hw (tx_runV S hE hw (c_X12_waitsFor h_58) lk_X12_289 (q0 := 0) rfl rfl rfl hl.1 (rest := []) rfl (Nat.le_of_ble_eq_true rfl) ⟨by decide, by decide⟩ dX12_signs_228 ⟨Nat.zero_le _, Nat.zero_le _⟩) (fun H locs hw => ?_)
      refine lv_aload_n hx hb dX12_signs_231 rfl (lv_at hl 0 rfl) ?_
      refine lv_iconst (v := 1) hx hb dX12_signs_232 (by decide) ?_
      obtain ⟨u_T_60, eu_T_60⟩ : ∃ z : S32, z = up2 u_T_59 0 44 (1 : Int32) := ⟨_, rfl⟩
      replace hf := tx_let_e hf eu_T_60
      refine pf_X12_306 (ws' := cl_X12 g a_T u_T_60 v_T ++ X) S hE hw (by decide) (by decide) 0 rfl (Nat.le_of_ble_eq_true rfl) (by rw [eu_T_60]; rfl) dX12_signs_233 (fun H locs hw => ?_)
      refine lv_aload_n hx hb dX12_signs_236 rfl (lv_at hl 0 rfl) ?_
      refine lv_iload_n hx hb dX12_signs_237 rfl (lv_at hl 1 rfl) ?_
      obtain ⟨r_62, h_61, hf⟩ := tx_b1_e hf
      refine tx_ci hw (tx_runS S hE hw (c_X12_rank h_61) lk_X12_274 rfl hl.1 (rest := [.ref (a_T 0)]) rfl (Nat.le_of_ble_eq_true rfl) ⟨by decide, by decide⟩ dX12_signs_238 ⟨Nat.zero_le _, Nat.zero_le _⟩) (fun H locs hw => ?_)
      refine lv_iconst (v := 3) hx hb dX12_signs_241 (by decide) ?_
      refine lv_icmp_ge (tgt := 249) hx hb dX12_signs_242 (by decide) (fun h_63 => ?_) (fun h_63 => ?_)
      · replace hf := tx_pos hf h_63
        refine lv_iconst (v := 0) hx hb dX12_signs_249 (by decide) ?_
        exact J250 hf hw (lv_sub hl [0] rfl)
      · replace hf := tx_neg hf h_63
        refine lv_iconst (v := 1) hx hb dX12_signs_245 (by decide) ?_
        refine lv_goto (tgt := 250) hx hb dX12_signs_246 (by decide) ?_
        exact J250 hf hw (lv_sub hl [0] rfl)
    · replace hf := tx_pos hf h_57
      refine lv_iconst (v := 0) hx hb dX12_signs_224 (by decide) ?_
      obtain ⟨e0, e1⟩ := tx_in2 hf
      rw [← e0, ← e1]
      exact tx_zret S hr hlk (by decide) hw dX12_signs_225
  have J175 : ∀ {u_T : S32} {w1 : Int32} {t1 : Int32} {H : Heap} {locs : List Loc} {ls : Array Slot}, f_X12_signs_J175 fu v_T u_T w1 t1 = some (r, zu_T) → WD g A s.heap (cl_X12 g a_T u_T v_T ++ X) H locs → lv_has ls 2 [(0, .ref (a_T 0)), (1, .int w1)] → W p l e (rmH 2) s m (List.toArray [.ref (a_T 0)]) below meth c H locs 0 0 (MQ below (va_Qi (fun r2 (_ : Unit) => r2 = r) (fun _ t => POST g A (cl_X12 g a_T zu_T v_T ++ X) t) A) (List.toArray [.ref (a_T 0)]) s 0 0 A) (F0 m 175 ls [.int t1, .ref (a_T 0)]) := by
    intro u_T w1 t1 H locs ls hf hw hl
    unfold f_X12_signs_J175 at hf
    obtain ⟨u_T_41, h_40, hf⟩ := tx_b1_e hf
    refine tx_cv hw (tx_runV S hE hw (c_X12_bind h_40) lk_X12_309 (q0 := 0) rfl rfl rfl hl.1 (rest := []) rfl (Nat.le_of_ble_eq_true rfl) ⟨by decide, by decide⟩ dX12_signs_175 ⟨Nat.zero_le _, Nat.zero_le _⟩) (fun H locs hw => ?_)
    refine lv_iload_n hx hb dX12_signs_178 rfl (lv_at hl 1 rfl) ?_
    obtain ⟨r_43, h_42, hf⟩ := tx_b1_e hf
    refine tx_ci hw (tx_runS S hE hw (c_X12_rank h_42) lk_X12_274 rfl hl.1 (rest := []) rfl (Nat.le_of_ble_eq_true rfl) ⟨by decide, by decide⟩ dX12_signs_179 ⟨Nat.zero_le _, Nat.zero_le _⟩) (fun H locs hw => ?_)
    refine lv_iconst (v := 4) hx hb dX12_signs_182 (by decide) ?_
    refine lv_icmp_ne (tgt := 217) hx hb dX12_signs_183 (by decide) (fun h_44 => ?_) (fun h_44 => ?_)
    · replace hf := tx_neg hf h_44
      exact J217 hf hw (lv_sub hl [0, 1] rfl)
    · replace hf := tx_pos hf h_44
      refine lv_aload_n hx hb dX12_signs_186 rfl (lv_at hl 0 rfl) ?_
      refine gf_X12_271 S hE hw 0 rfl rfl dX12_signs_187 ?_
      refine lv_if_le (tgt := 217) hx hb dX12_signs_190 (by decide) (fun h_45 => ?_) (fun h_45 => ?_)
      · replace hf := tx_pos hf h_45
        exact J217 hf hw (lv_sub hl [0, 1] rfl)
      · replace hf := tx_neg hf h_45
        refine lv_aload_n hx hb dX12_signs_193 rfl (lv_at hl 0 rfl) ?_
        refine gf_X12_75 S hE hw 0 rfl rfl dX12_signs_194 ?_
        refine lv_aload_n hx hb dX12_signs_197 rfl (lv_at hl 0 rfl) ?_
        refine gf_X12_271 S hE hw 0 rfl rfl dX12_signs_198 ?_
        refine lv_iconst (v := 1) hx hb dX12_signs_201 (by decide) ?_
        refine lv_isub hx hb dX12_signs_202 ?_
        obtain ⟨h_46, hf⟩ := tx_ck_e hf
        refine tx_iald S hE hw 21 rfl h_46 dX12_signs_203 ?_
        obtain ⟨r_48, h_47, hf⟩ := tx_b1_e hf
        refine tx_ci hw (tx_runS S hE hw (c_X12_rank h_47) lk_X12_274 rfl hl.1 (rest := []) rfl (Nat.le_of_ble_eq_true rfl) ⟨by decide, by decide⟩ dX12_signs_204 ⟨Nat.zero_le _, Nat.zero_le _⟩) (fun H locs hw => ?_)
        refine lv_iconst (v := 4) hx hb dX12_signs_207 (by decide) ?_
        refine lv_icmp_ne (tgt := 217) hx hb dX12_signs_208 (by decide) (fun h_49 => ?_) (fun h_49 => ?_)
        · replace hf := tx_neg hf h_49
          exact J217 hf hw (lv_sub hl [0, 1] rfl)
        · replace hf := tx_pos hf h_49
          refine lv_aload_n hx hb dX12_signs_211 rfl (lv_at hl 0 rfl) ?_
          refine lv_iconst (v := 1) hx hb dX12_signs_212 (by decide) ?_
          obtain ⟨r_51, u_T_52, h_50, hf⟩ := tx_b2_e hf
          refine tx_ci hw (tx_runV S hE hw (c_X12_wrong h_50) lk_X12_187 (q0 := 0) rfl rfl rfl hl.1 (rest := []) rfl (Nat.le_of_ble_eq_true rfl) ⟨by decide, by decide⟩ dX12_signs_213 ⟨Nat.zero_le _, Nat.zero_le _⟩) (fun H locs hw => ?_)
          obtain ⟨h_53, hf⟩ := tx_bz_e hf
          obtain ⟨e0, e1⟩ := tx_in2 hf
          rw [← e0, ← e1]
          exact tx_zret S hr hlk h_53 hw dX12_signs_216
  have J147 : ∀ {u_T : S32} {t0 : Int32} {H : Heap} {locs : List Loc} {ls : Array Slot}, f_X12_signs_J147 fu v_T u_T t0 = some (r, zu_T) → WD g A s.heap (cl_X12 g a_T u_T v_T ++ X) H locs → lv_has ls 2 [(0, .ref (a_T 0))] → W p l e (rmH 2) s m (List.toArray [.ref (a_T 0)]) below meth c H locs 0 0 (MQ below (va_Qi (fun r2 (_ : Unit) => r2 = r) (fun _ t => POST g A (cl_X12 g a_T zu_T v_T ++ X) t) A) (List.toArray [.ref (a_T 0)]) s 0 0 A) (F0 m 147 ls [.int t0]) := by
    intro u_T t0 H locs ls hf hw hl
    unfold f_X12_signs_J147 at hf
    refine lv_istore_n (lv' := [(1, .int t0), (0, .ref (a_T 0))]) hx hb dX12_signs_147 rfl hl (by decide) rfl (fun ls hl => ?_)
    refine lv_iload_n hx hb dX12_signs_148 rfl (lv_at hl 0 rfl) ?_
    refine lv_if_ne (tgt := 158) hx hb dX12_signs_149 (by decide) (fun h_30 => ?_) (fun h_30 => ?_)
    · replace hf := tx_neg hf h_30
      refine lv_aload_n hx hb dX12_signs_158 rfl (lv_at hl 1 rfl) ?_
      refine lv_iload_n hx hb dX12_signs_159 rfl (lv_at hl 0 rfl) ?_
      obtain ⟨r_32, h_31, hf⟩ := tx_b1_e hf
      refine tx_ci hw (tx_runS S hE hw (c_X12_rank h_31) lk_X12_274 rfl hl.1 (rest := [.ref (a_T 0)]) rfl (Nat.le_of_ble_eq_true rfl) ⟨by decide, by decide⟩ dX12_signs_160 ⟨Nat.zero_le _, Nat.zero_le _⟩) (fun H locs hw => ?_)
      refine lv_iconst (v := 4) hx hb dX12_signs_163 (by decide) ?_
      refine lv_icmp_ne (tgt := 171) hx hb dX12_signs_164 (by decide) (fun h_33 => ?_) (fun h_33 => ?_)
      · replace hf := tx_neg hf h_33
        refine lv_iload_n hx hb dX12_signs_171 rfl (lv_at hl 0 rfl) ?_
        obtain ⟨r_35, h_34, hf⟩ := tx_b1_e hf
        refine tx_ci hw (tx_runS S hE hw (c_X12_rank h_34) lk_X12_274 rfl hl.1 (rest := [.ref (a_T 0)]) rfl (Nat.le_of_ble_eq_true rfl) ⟨by decide, by decide⟩ dX12_signs_172 ⟨Nat.zero_le _, Nat.zero_le _⟩) (fun H locs hw => ?_)
        exact J175 hf hw (lv_sub hl [1, 0] rfl)
      · replace hf := tx_pos hf h_33
        refine lv_iconst (v := 5) hx hb dX12_signs_167 (by decide) ?_
        refine lv_goto (tgt := 175) hx hb dX12_signs_168 (by decide) ?_
        exact J175 hf hw (lv_sub hl [1, 0] rfl)
    · replace hf := tx_pos hf h_30
      refine lv_aload_n hx hb dX12_signs_152 rfl (lv_at hl 1 rfl) ?_
      refine lv_iconst (v := 1) hx hb dX12_signs_153 (by decide) ?_
      obtain ⟨r_37, u_T_38, h_36, hf⟩ := tx_b2_e hf
      refine tx_ci hw (tx_runV S hE hw (c_X12_wrong h_36) lk_X12_187 (q0 := 0) rfl rfl rfl hl.1 (rest := []) rfl (Nat.le_of_ble_eq_true rfl) ⟨by decide, by decide⟩ dX12_signs_154 ⟨Nat.zero_le _, Nat.zero_le _⟩) (fun H locs hw => ?_)
      obtain ⟨h_39, hf⟩ := tx_bz_e hf
      obtain ⟨e0, e1⟩ := tx_in2 hf
      rw [← e0, ← e1]
      exact tx_zret S hr hlk h_39 hw dX12_signs_157
  have J47 : ∀ {u_T : S32} {H : Heap} {locs : List Loc} {ls : Array Slot}, f_X12_signs_J47 fu v_T u_T = some (r, zu_T) → WD g A s.heap (cl_X12 g a_T u_T v_T ++ X) H locs → lv_has ls 2 [(0, .ref (a_T 0))] → W p l e (rmH 2) s m (List.toArray [.ref (a_T 0)]) below meth c H locs 0 0 (MQ below (va_Qi (fun r2 (_ : Unit) => r2 = r) (fun _ t => POST g A (cl_X12 g a_T zu_T v_T ++ X) t) A) (List.toArray [.ref (a_T 0)]) s 0 0 A) (F0 m 47 ls []) := by
    intro u_T H locs ls hf hw hl
    unfold f_X12_signs_J47 at hf
    refine lv_aload_n hx hb dX12_signs_47 rfl (lv_at hl 0 rfl) ?_
    refine lv_bipush (v := 10) hx hb dX12_signs_48 (by decide) ?_
    obtain ⟨r_12, h_11, hf⟩ := tx_b1_e hf
    refine tx_ci hw (tx_runV S hE hw (c_X12_isKey h_11) lk_X12_297 (q0 := 0) rfl rfl rfl hl.1 (rest := []) rfl (Nat.le_of_ble_eq_true rfl) ⟨by decide, by decide⟩ dX12_signs_50 ⟨Nat.zero_le _, Nat.zero_le _⟩) (fun H locs hw => ?_)
    refine lv_if_eq (tgt := 60) hx hb dX12_signs_53 (by decide) (fun h_13 => ?_) (fun h_13 => ?_)
    · replace hf := tx_pos hf h_13
      refine lv_aload_n hx hb dX12_signs_60 rfl (lv_at hl 0 rfl) ?_
      refine lv_bipush (v := 11) hx hb dX12_signs_61 (by decide) ?_
      obtain ⟨r_15, h_14, hf⟩ := tx_b1_e hf
      refine tx_ci hw (tx_runV S hE hw (c_X12_isKey h_14) lk_X12_297 (q0 := 0) rfl rfl rfl hl.1 (rest := []) rfl (Nat.le_of_ble_eq_true rfl) ⟨by decide, by decide⟩ dX12_signs_63 ⟨Nat.zero_le _, Nat.zero_le _⟩) (fun H locs hw => ?_)
      refine lv_if_eq (tgt := 73) hx hb dX12_signs_66 (by decide) (fun h_16 => ?_) (fun h_16 => ?_)
      · replace hf := tx_pos hf h_16
        refine lv_aload_n hx hb dX12_signs_73 rfl (lv_at hl 0 rfl) ?_
        refine gf_X12_163 S hE hw 0 rfl rfl dX12_signs_74 ?_
        refine lv_iconst (v := 5) hx hb dX12_signs_77 (by decide) ?_
        refine lv_icmp_ne (tgt := 90) hx hb dX12_signs_78 (by decide) (fun h_17 => ?_) (fun h_17 => ?_)
        · replace hf := tx_neg hf h_17
          refine lv_aload_n hx hb dX12_signs_90 rfl (lv_at hl 0 rfl) ?_
          refine lv_bipush (v := 43) hx hb dX12_signs_91 (by decide) ?_
          obtain ⟨r_19, h_18, hf⟩ := tx_b1_e hf
          refine tx_ci hw (tx_runV S hE hw (c_X12_isSign h_18) lk_X12_200 (q0 := 0) rfl rfl rfl hl.1 (rest := []) rfl (Nat.le_of_ble_eq_true rfl) ⟨by decide, by decide⟩ dX12_signs_93 ⟨Nat.zero_le _, Nat.zero_le _⟩) (fun H locs hw => ?_)
          refine lv_if_eq (tgt := 104) hx hb dX12_signs_96 (by decide) (fun h_20 => ?_) (fun h_20 => ?_)
          · replace hf := tx_pos hf h_20
            refine lv_aload_n hx hb dX12_signs_104 rfl (lv_at hl 0 rfl) ?_
            refine lv_bipush (v := 45) hx hb dX12_signs_105 (by decide) ?_
            obtain ⟨r_22, h_21, hf⟩ := tx_b1_e hf
            refine tx_ci hw (tx_runV S hE hw (c_X12_isSign h_21) lk_X12_200 (q0 := 0) rfl rfl rfl hl.1 (rest := []) rfl (Nat.le_of_ble_eq_true rfl) ⟨by decide, by decide⟩ dX12_signs_107 ⟨Nat.zero_le _, Nat.zero_le _⟩) (fun H locs hw => ?_)
            refine lv_if_eq (tgt := 118) hx hb dX12_signs_110 (by decide) (fun h_23 => ?_) (fun h_23 => ?_)
            · replace hf := tx_pos hf h_23
              refine lv_aload_n hx hb dX12_signs_118 rfl (lv_at hl 0 rfl) ?_
              refine lv_bipush (v := 42) hx hb dX12_signs_119 (by decide) ?_
              obtain ⟨r_25, h_24, hf⟩ := tx_b1_e hf
              refine tx_ci hw (tx_runV S hE hw (c_X12_isSign h_24) lk_X12_200 (q0 := 0) rfl rfl rfl hl.1 (rest := []) rfl (Nat.le_of_ble_eq_true rfl) ⟨by decide, by decide⟩ dX12_signs_121 ⟨Nat.zero_le _, Nat.zero_le _⟩) (fun H locs hw => ?_)
              refine lv_if_eq (tgt := 132) hx hb dX12_signs_124 (by decide) (fun h_26 => ?_) (fun h_26 => ?_)
              · replace hf := tx_pos hf h_26
                refine lv_aload_n hx hb dX12_signs_132 rfl (lv_at hl 0 rfl) ?_
                refine lv_bipush (v := 47) hx hb dX12_signs_133 (by decide) ?_
                obtain ⟨r_28, h_27, hf⟩ := tx_b1_e hf
                refine tx_ci hw (tx_runV S hE hw (c_X12_isSign h_27) lk_X12_200 (q0 := 0) rfl rfl rfl hl.1 (rest := []) rfl (Nat.le_of_ble_eq_true rfl) ⟨by decide, by decide⟩ dX12_signs_135 ⟨Nat.zero_le _, Nat.zero_le _⟩) (fun H locs hw => ?_)
                refine lv_if_eq (tgt := 146) hx hb dX12_signs_138 (by decide) (fun h_29 => ?_) (fun h_29 => ?_)
                · replace hf := tx_pos hf h_29
                  refine lv_iconst (v := 0) hx hb dX12_signs_146 (by decide) ?_
                  exact J147 hf hw (lv_sub hl [0] rfl)
                · replace hf := tx_neg hf h_29
                  refine lv_bipush (v := 14) hx hb dX12_signs_141 (by decide) ?_
                  refine lv_goto (tgt := 147) hx hb dX12_signs_143 (by decide) ?_
                  exact J147 hf hw (lv_sub hl [0] rfl)
              · replace hf := tx_neg hf h_26
                refine lv_bipush (v := 13) hx hb dX12_signs_127 (by decide) ?_
                refine lv_goto (tgt := 147) hx hb dX12_signs_129 (by decide) ?_
                exact J147 hf hw (lv_sub hl [0] rfl)
            · replace hf := tx_neg hf h_23
              refine lv_bipush (v := 12) hx hb dX12_signs_113 (by decide) ?_
              refine lv_goto (tgt := 147) hx hb dX12_signs_115 (by decide) ?_
              exact J147 hf hw (lv_sub hl [0] rfl)
          · replace hf := tx_neg hf h_20
            refine lv_bipush (v := 11) hx hb dX12_signs_99 (by decide) ?_
            refine lv_goto (tgt := 147) hx hb dX12_signs_101 (by decide) ?_
            exact J147 hf hw (lv_sub hl [0] rfl)
        · replace hf := tx_pos hf h_17
          refine lv_iconst (v := 5) hx hb dX12_signs_81 (by decide) ?_
          refine lv_aload_n hx hb dX12_signs_82 rfl (lv_at hl 0 rfl) ?_
          refine gf_X12_174 S hE hw 0 rfl rfl dX12_signs_83 ?_
          refine lv_iadd hx hb dX12_signs_86 ?_
          refine lv_goto (tgt := 147) hx hb dX12_signs_87 (by decide) ?_
          exact J147 hf hw (lv_sub hl [0] rfl)
      · replace hf := tx_neg hf h_16
        refine lv_iconst (v := 4) hx hb dX12_signs_69 (by decide) ?_
        refine lv_goto (tgt := 147) hx hb dX12_signs_70 (by decide) ?_
        exact J147 hf hw (lv_sub hl [0] rfl)
    · replace hf := tx_neg hf h_13
      refine lv_iconst (v := 3) hx hb dX12_signs_56 (by decide) ?_
      refine lv_goto (tgt := 147) hx hb dX12_signs_57 (by decide) ?_
      exact J147 hf hw (lv_sub hl [0] rfl)
  unfold f_X12_signs at hf
  refine lv_aload_n hx hb dX12_signs_0 rfl (lv_at hl 0 rfl) ?_
  refine lv_bipush (v := 41) hx hb dX12_signs_1 (by decide) ?_
  obtain ⟨r_2, h_1, hf⟩ := tx_b1_e hf
  refine tx_ci hw (tx_runV S hE hw (c_X12_isSign h_1) lk_X12_200 (q0 := 0) rfl rfl rfl hl.1 (rest := []) rfl (Nat.le_of_ble_eq_true rfl) ⟨by decide, by decide⟩ dX12_signs_3 ⟨Nat.zero_le _, Nat.zero_le _⟩) (fun H locs hw => ?_)
  refine lv_if_eq (tgt := 47) hx hb dX12_signs_6 (by decide) (fun h_3 => ?_) (fun h_3 => ?_)
  · replace hf := tx_pos hf h_3
    exact J47 hf hw (lv_sub hl [0] rfl)
  · replace hf := tx_neg hf h_3
    refine lv_aload_n hx hb dX12_signs_9 rfl (lv_at hl 0 rfl) ?_
    refine gf_X12_286 S hE hw 0 rfl rfl dX12_signs_10 ?_
    refine lv_if_le (tgt := 47) hx hb dX12_signs_13 (by decide) (fun h_4 => ?_) (fun h_4 => ?_)
    · replace hf := tx_pos hf h_4
      exact J47 hf hw (lv_sub hl [0] rfl)
    · replace hf := tx_neg hf h_4
      refine lv_aload_n hx hb dX12_signs_16 rfl (lv_at hl 0 rfl) ?_
      refine lv_iconst (v := 1) hx hb dX12_signs_17 (by decide) ?_
      obtain ⟨u_T_6, h_5, hf⟩ := tx_b1_e hf
      refine tx_cv hw (tx_runV S hE hw (c_X12_bind h_5) lk_X12_309 (q0 := 0) rfl rfl rfl hl.1 (rest := []) rfl (Nat.le_of_ble_eq_true rfl) ⟨by decide, by decide⟩ dX12_signs_18 ⟨Nat.zero_le _, Nat.zero_le _⟩) (fun H locs hw => ?_)
      refine lv_aload_n hx hb dX12_signs_21 rfl (lv_at hl 0 rfl) ?_
      refine lv_dup hx hb dX12_signs_22 rfl ?_
      refine gf_X12_271 S hE hw 0 rfl rfl dX12_signs_23 ?_
      refine lv_iconst (v := 1) hx hb dX12_signs_26 (by decide) ?_
      refine lv_isub hx hb dX12_signs_27 ?_
      obtain ⟨u_T_7, eu_T_7⟩ : ∃ z : S32, z = up2 u_T_6 0 40 ((u_T_6 0 40) - (1 : Int32)) := ⟨_, rfl⟩
      replace hf := tx_let_e hf eu_T_7
      refine pf_X12_271 (ws' := cl_X12 g a_T u_T_7 v_T ++ X) S hE hw rfl rfl 0 rfl (Nat.le_of_ble_eq_true rfl) (by rw [eu_T_7]; rfl) dX12_signs_28 (fun H locs hw => ?_)
      refine lv_aload_n hx hb dX12_signs_31 rfl (lv_at hl 0 rfl) ?_
      refine lv_dup hx hb dX12_signs_32 rfl ?_
      refine gf_X12_286 S hE hw 0 rfl rfl dX12_signs_33 ?_
      refine lv_iconst (v := 1) hx hb dX12_signs_36 (by decide) ?_
      refine lv_isub hx hb dX12_signs_37 ?_
      obtain ⟨u_T_8, eu_T_8⟩ : ∃ z : S32, z = up2 u_T_7 0 42 ((u_T_7 0 42) - (1 : Int32)) := ⟨_, rfl⟩
      replace hf := tx_let_e hf eu_T_8
      refine pf_X12_286 (ws' := cl_X12 g a_T u_T_8 v_T ++ X) S hE hw rfl rfl 0 rfl (Nat.le_of_ble_eq_true rfl) (by rw [eu_T_8]; rfl) dX12_signs_38 (fun H locs hw => ?_)
      refine lv_aload_n hx hb dX12_signs_41 rfl (lv_at hl 0 rfl) ?_
      obtain ⟨u_T_10, h_9, hf⟩ := tx_b1_e hf
      refine tx_cv hw (tx_runV S hE hw (c_X12_token h_9) lk_X12_197 (q0 := 0) rfl rfl rfl hl.1 (rest := []) rfl (Nat.le_of_ble_eq_true rfl) ⟨by decide, by decide⟩ dX12_signs_42 ⟨Nat.zero_le _, Nat.zero_le _⟩) (fun H locs hw => ?_)
      refine lv_iconst (v := 1) hx hb dX12_signs_45 (by decide) ?_
      obtain ⟨e0, e1⟩ := tx_in2 hf
      rw [← e0, ← e1]
      exact tx_zret S hr hlk (by decide) hw dX12_signs_46
def f_X12_nameMet (fu : Nat) (u_T : S32) (v_T : S64) : Option (Int32) := if (u_T 0 8) = (1 : Int32) then (if (u_T 0 9) < (13 : Int32) then (some (-1 : Int32)) else (some ((u_T 0 9) - (13 : Int32)))) else (some (-1 : Int32))
set_option maxHeartbeats 4000000 in
set_option maxRecDepth 100000 in
theorem c_X12_nameMet {l : Launch} {g : GG} {A : Nat → Prop} {X : va_W} {fu : Nat} {a_T : Nat → Nat} {u_T : S32} {v_T : S64} {r : Int32} (hf : f_X12_nameMet fu u_T v_T = some r) : MI l yX12_nameMet cX12_nameMet 1 (some .int) 0 g A (cl_X12 g a_T u_T v_T ++ X) [.ref (a_T 0)] r (cl_X12 g a_T u_T v_T ++ X) := by
  refine tx_start (av := [.ref (a_T 0)]) (by decide) (Nat.le_of_ble_eq_true rfl) ?_
  intro p e s m below meth c ls S hr hlk hE hw hl
  have S : CallFix p m c cX12_nameMet 1 s (List.toArray [.ref (a_T 0)]) (Cond.code yX12_nameMet cX12_nameMet 1 (some .int) :: allW) RX12 := S
  have hx := S.1
  have hb := S.2.1
  have hown := S.2.2.2.1
  have hts : ∀ w ∈ allW, w.before (List.toArray [.ref (a_T 0)]) s = true := fun w h => S.2.2.2.2 w (List.mem_cons_of_mem _ h)
  have hl : lv_has ls 1 [(0, .ref (a_T 0))] := hl
  unfold f_X12_nameMet at hf
  refine lv_aload_n hx hb dX12_nameMet_0 rfl (lv_at hl 0 rfl) ?_
  refine gf_X12_163 S hE hw 0 rfl rfl dX12_nameMet_1 ?_
  refine lv_iconst (v := 1) hx hb dX12_nameMet_4 (by decide) ?_
  refine lv_icmp_ne (tgt := 27) hx hb dX12_nameMet_5 (by decide) (fun h_1 => ?_) (fun h_1 => ?_)
  · replace hf := tx_neg hf h_1
    refine lv_iconst (v := -1) hx hb dX12_nameMet_27 (by decide) ?_
    obtain e0 := tx_in1 hf
    rw [← e0]
    exact tx_iret S hr hlk hw dX12_nameMet_28
  · replace hf := tx_pos hf h_1
    refine lv_aload_n hx hb dX12_nameMet_8 rfl (lv_at hl 0 rfl) ?_
    refine gf_X12_174 S hE hw 0 rfl rfl dX12_nameMet_9 ?_
    refine lv_bipush (v := 13) hx hb dX12_nameMet_12 (by decide) ?_
    refine lv_icmp_lt (tgt := 27) hx hb dX12_nameMet_14 (by decide) (fun h_2 => ?_) (fun h_2 => ?_)
    · replace hf := tx_pos hf h_2
      refine lv_iconst (v := -1) hx hb dX12_nameMet_27 (by decide) ?_
      obtain e0 := tx_in1 hf
      rw [← e0]
      exact tx_iret S hr hlk hw dX12_nameMet_28
    · replace hf := tx_neg hf h_2
      refine lv_aload_n hx hb dX12_nameMet_17 rfl (lv_at hl 0 rfl) ?_
      refine gf_X12_174 S hE hw 0 rfl rfl dX12_nameMet_18 ?_
      refine lv_bipush (v := 13) hx hb dX12_nameMet_21 (by decide) ?_
      refine lv_isub hx hb dX12_nameMet_23 ?_
      refine lv_goto (tgt := 28) hx hb dX12_nameMet_24 (by decide) ?_
      obtain e0 := tx_in1 hf
      rw [← e0]
      exact tx_iret S hr hlk hw dX12_nameMet_28
def f_X12_leafRead_J160 (fu : Nat) (v_T : S64) (u_T : S32) (t1 : Int32) (t2 : Int32) : Option (Int32 × S32) := tx_b1 (f_X12_grown fu v_T u_T t1 t2 (0 : Int32)) fun (u_T_48 : S32) => tx_let (up2 u_T_48 0 44 (0 : Int32)) fun (u_T_49 : S32) => tx_b1 (f_X12_token fu v_T u_T_49) fun (u_T_51 : S32) => some ((1 : Int32), u_T_51)
def f_X12_leafRead_J148 (fu : Nat) (v_T : S64) (u_T : S32) (w1 : Int32) (t1 : Int32) : Option (Int32 × S32) := if w1 < (0 : Int32) then (f_X12_leafRead_J160 fu v_T u_T t1 (u_T 0 9)) else (f_X12_leafRead_J160 fu v_T u_T t1 w1)
def f_X12_leafRead_J129 (fu : Nat) (v_T : S64) (u_T : S32) (w1 : Int32) : Option (Int32 × S32) := tx_b2 (f_X12_isCounted fu v_T u_T) fun (r_42 : Int32) (u_T_43 : S32) => if r_42 = (0 : Int32) then (some ((0 : Int32), u_T_43)) else (if w1 < (0 : Int32) then (f_X12_leafRead_J148 fu v_T u_T_43 w1 (0 : Int32)) else (f_X12_leafRead_J148 fu v_T u_T_43 w1 (1 : Int32)))
def f_X12_leafRead_J109 (fu : Nat) (v_T : S64) (u_T : S32) (w1 : Int32) : Option (Int32 × S32) := if (0 : Int32) ≤ w1 then (f_X12_leafRead_J129 fu v_T u_T w1) else (if (u_T 0 9) ≤ (9999 : Int32) then (f_X12_leafRead_J129 fu v_T u_T w1) else (tx_b2 (f_X12_wrong fu v_T u_T (2 : Int32)) fun (r_38 : Int32) (u_T_39 : S32) => tx_bz r_38 <| some (r_38, u_T_39)))
def f_X12_leafRead_J86 (fu : Nat) (v_T : S64) (u_T : S32) : Option (Int32 × S32) := tx_b1 (f_X12_nameMet fu u_T v_T) fun (r_28 : Int32) => if (0 : Int32) ≤ r_28 then (f_X12_leafRead_J109 fu v_T u_T r_28) else (if (u_T 0 8) = (3 : Int32) then (f_X12_leafRead_J109 fu v_T u_T r_28) else (tx_b2 (f_X12_wrong fu v_T u_T (1 : Int32)) fun (r_32 : Int32) (u_T_33 : S32) => tx_bz r_32 <| some (r_32, u_T_33)))
def f_X12_leafRead (fu : Nat) (v_T : S64) (u_T : S32) : Option (Int32 × S32) := tx_b1 (f_X12_isSign fu u_T v_T (40 : Int32)) fun (r_2 : Int32) => if r_2 = (0 : Int32) then (tx_b1 (f_X12_isKey fu u_T v_T (12 : Int32)) fun (r_5 : Int32) => if r_5 = (0 : Int32) then (f_X12_leafRead_J86 fu v_T u_T) else (if (u_T 0 45) = (0 : Int32) then (f_X12_leafRead_J86 fu v_T u_T) else (tx_b2 (f_X12_isCounted fu v_T u_T) fun (r_9 : Int32) (u_T_10 : S32) => if r_9 = (0 : Int32) then (some ((0 : Int32), u_T_10)) else (tx_b1 (f_X12_waitsFor fu v_T u_T_10 (2 : Int32)) fun (u_T_13 : S32) => tx_b1 (f_X12_token fu v_T u_T_13) fun (u_T_15 : S32) => some ((1 : Int32), u_T_15))))) else (if (u_T 0 42) = (8 : Int32) then (tx_b2 (f_X12_wrong fu v_T u_T (2 : Int32)) fun (r_24 : Int32) (u_T_25 : S32) => tx_bz r_24 <| some (r_24, u_T_25)) else (tx_let (up2 u_T 0 42 ((u_T 0 42) + (1 : Int32))) fun (u_T_17 : S32) => tx_b1 (f_X12_waitsFor fu v_T u_T_17 (0 : Int32)) fun (u_T_19 : S32) => tx_let (up2 u_T_19 0 45 (1 : Int32)) fun (u_T_20 : S32) => tx_b1 (f_X12_token fu v_T u_T_20) fun (u_T_22 : S32) => some ((1 : Int32), u_T_22)))
set_option maxHeartbeats 4000000 in
set_option maxRecDepth 100000 in
theorem c_X12_leafRead {l : Launch} {g : GG} {A : Nat → Prop} {X : va_W} {fu : Nat} {a_T : Nat → Nat} {u_T : S32} {v_T : S64} {r : Int32} {zu_T : S32} (hf : f_X12_leafRead fu v_T u_T = some (r, zu_T)) : MI l yX12_leafRead cX12_leafRead 2 (some .boolean) 2 g A (cl_X12 g a_T u_T v_T ++ X) [.ref (a_T 0)] r (cl_X12 g a_T zu_T v_T ++ X) := by
  refine tx_start (av := [.ref (a_T 0)]) (by decide) (Nat.le_of_ble_eq_true rfl) ?_
  intro p e s m below meth c ls S hr hlk hE hw hl
  have S : CallFix p m c cX12_leafRead 2 s (List.toArray [.ref (a_T 0)]) (Cond.code yX12_leafRead cX12_leafRead 2 (some .boolean) :: allW) RX12 := S
  have hx := S.1
  have hb := S.2.1
  have hown := S.2.2.2.1
  have hts : ∀ w ∈ allW, w.before (List.toArray [.ref (a_T 0)]) s = true := fun w h => S.2.2.2.2 w (List.mem_cons_of_mem _ h)
  have hl : lv_has ls 2 [(0, .ref (a_T 0))] := hl
  have J160 : ∀ {u_T : S32} {t1 : Int32} {t2 : Int32} {H : Heap} {locs : List Loc} {ls : Array Slot}, f_X12_leafRead_J160 fu v_T u_T t1 t2 = some (r, zu_T) → WD g A s.heap (cl_X12 g a_T u_T v_T ++ X) H locs → lv_has ls 2 [(0, .ref (a_T 0))] → W p l e (rmH 2) s m (List.toArray [.ref (a_T 0)]) below meth c H locs 0 0 (MQ below (va_Qi (fun r2 (_ : Unit) => r2 = r) (fun _ t => POST g A (cl_X12 g a_T zu_T v_T ++ X) t) A) (List.toArray [.ref (a_T 0)]) s 0 0 A) (F0 m 160 ls [.int t2, .int t1, .ref (a_T 0)]) := by
    intro u_T t1 t2 H locs ls hf hw hl
    unfold f_X12_leafRead_J160 at hf
    refine lv_iconst (v := 0) hx hb dX12_leafRead_160 (by decide) ?_
    obtain ⟨u_T_48, h_47, hf⟩ := tx_b1_e hf
    refine tx_cv hw (tx_runV S hE hw (c_X12_grown h_47) lk_X12_282 (q0 := 0) rfl rfl rfl hl.1 (rest := []) rfl (Nat.le_of_ble_eq_true rfl) ⟨by decide, by decide⟩ dX12_leafRead_161 ⟨Nat.zero_le _, Nat.zero_le _⟩) (fun H locs hw => ?_)
    refine lv_aload_n hx hb dX12_leafRead_164 rfl (lv_at hl 0 rfl) ?_
    refine lv_iconst (v := 0) hx hb dX12_leafRead_165 (by decide) ?_
    obtain ⟨u_T_49, eu_T_49⟩ : ∃ z : S32, z = up2 u_T_48 0 44 (0 : Int32) := ⟨_, rfl⟩
    replace hf := tx_let_e hf eu_T_49
    refine pf_X12_306 (ws' := cl_X12 g a_T u_T_49 v_T ++ X) S hE hw (by decide) (by decide) 0 rfl (Nat.le_of_ble_eq_true rfl) (by rw [eu_T_49]; rfl) dX12_leafRead_166 (fun H locs hw => ?_)
    refine lv_aload_n hx hb dX12_leafRead_169 rfl (lv_at hl 0 rfl) ?_
    obtain ⟨u_T_51, h_50, hf⟩ := tx_b1_e hf
    refine tx_cv hw (tx_runV S hE hw (c_X12_token h_50) lk_X12_197 (q0 := 0) rfl rfl rfl hl.1 (rest := []) rfl (Nat.le_of_ble_eq_true rfl) ⟨by decide, by decide⟩ dX12_leafRead_170 ⟨Nat.zero_le _, Nat.zero_le _⟩) (fun H locs hw => ?_)
    refine lv_iconst (v := 1) hx hb dX12_leafRead_173 (by decide) ?_
    obtain ⟨e0, e1⟩ := tx_in2 hf
    rw [← e0, ← e1]
    exact tx_zret S hr hlk (by decide) hw dX12_leafRead_174
  have J148 : ∀ {u_T : S32} {w1 : Int32} {t1 : Int32} {H : Heap} {locs : List Loc} {ls : Array Slot}, f_X12_leafRead_J148 fu v_T u_T w1 t1 = some (r, zu_T) → WD g A s.heap (cl_X12 g a_T u_T v_T ++ X) H locs → lv_has ls 2 [(0, .ref (a_T 0)), (1, .int w1)] → W p l e (rmH 2) s m (List.toArray [.ref (a_T 0)]) below meth c H locs 0 0 (MQ below (va_Qi (fun r2 (_ : Unit) => r2 = r) (fun _ t => POST g A (cl_X12 g a_T zu_T v_T ++ X) t) A) (List.toArray [.ref (a_T 0)]) s 0 0 A) (F0 m 148 ls [.int t1, .ref (a_T 0)]) := by
    intro u_T w1 t1 H locs ls hf hw hl
    unfold f_X12_leafRead_J148 at hf
    refine lv_iload_n hx hb dX12_leafRead_148 rfl (lv_at hl 1 rfl) ?_
    refine lv_if_lt (tgt := 156) hx hb dX12_leafRead_149 (by decide) (fun h_46 => ?_) (fun h_46 => ?_)
    · replace hf := tx_pos hf h_46
      refine lv_aload_n hx hb dX12_leafRead_156 rfl (lv_at hl 0 rfl) ?_
      refine gf_X12_174 S hE hw 0 rfl rfl dX12_leafRead_157 ?_
      exact J160 hf hw (lv_sub hl [0] rfl)
    · replace hf := tx_neg hf h_46
      refine lv_iload_n hx hb dX12_leafRead_152 rfl (lv_at hl 1 rfl) ?_
      refine lv_goto (tgt := 160) hx hb dX12_leafRead_153 (by decide) ?_
      exact J160 hf hw (lv_sub hl [0] rfl)
  have J129 : ∀ {u_T : S32} {w1 : Int32} {H : Heap} {locs : List Loc} {ls : Array Slot}, f_X12_leafRead_J129 fu v_T u_T w1 = some (r, zu_T) → WD g A s.heap (cl_X12 g a_T u_T v_T ++ X) H locs → lv_has ls 2 [(0, .ref (a_T 0)), (1, .int w1)] → W p l e (rmH 2) s m (List.toArray [.ref (a_T 0)]) below meth c H locs 0 0 (MQ below (va_Qi (fun r2 (_ : Unit) => r2 = r) (fun _ t => POST g A (cl_X12 g a_T zu_T v_T ++ X) t) A) (List.toArray [.ref (a_T 0)]) s 0 0 A) (F0 m 129 ls []) := by
    intro u_T w1 H locs ls hf hw hl
    unfold f_X12_leafRead_J129 at hf
    refine lv_aload_n hx hb dX12_leafRead_129 rfl (lv_at hl 0 rfl) ?_
    obtain ⟨r_42, u_T_43, h_41, hf⟩ := tx_b2_e hf
    refine tx_ci hw (tx_runV S hE hw (c_X12_isCounted h_41) lk_X12_300 (q0 := 0) rfl rfl rfl hl.1 (rest := []) rfl (Nat.le_of_ble_eq_true rfl) ⟨by decide, by decide⟩ dX12_leafRead_130 ⟨Nat.zero_le _, Nat.zero_le _⟩) (fun H locs hw => ?_)
    refine lv_if_ne (tgt := 138) hx hb dX12_leafRead_133 (by decide) (fun h_44 => ?_) (fun h_44 => ?_)
    · replace hf := tx_neg hf h_44
      refine lv_aload_n hx hb dX12_leafRead_138 rfl (lv_at hl 0 rfl) ?_
      refine lv_iload_n hx hb dX12_leafRead_139 rfl (lv_at hl 1 rfl) ?_
      refine lv_if_lt (tgt := 147) hx hb dX12_leafRead_140 (by decide) (fun h_45 => ?_) (fun h_45 => ?_)
      · replace hf := tx_pos hf h_45
        refine lv_iconst (v := 0) hx hb dX12_leafRead_147 (by decide) ?_
        exact J148 hf hw (lv_sub hl [0, 1] rfl)
      · replace hf := tx_neg hf h_45
        refine lv_iconst (v := 1) hx hb dX12_leafRead_143 (by decide) ?_
        refine lv_goto (tgt := 148) hx hb dX12_leafRead_144 (by decide) ?_
        exact J148 hf hw (lv_sub hl [0, 1] rfl)
    · replace hf := tx_pos hf h_44
      refine lv_iconst (v := 0) hx hb dX12_leafRead_136 (by decide) ?_
      obtain ⟨e0, e1⟩ := tx_in2 hf
      rw [← e0, ← e1]
      exact tx_zret S hr hlk (by decide) hw dX12_leafRead_137
  have J109 : ∀ {u_T : S32} {w1 : Int32} {H : Heap} {locs : List Loc} {ls : Array Slot}, f_X12_leafRead_J109 fu v_T u_T w1 = some (r, zu_T) → WD g A s.heap (cl_X12 g a_T u_T v_T ++ X) H locs → lv_has ls 2 [(0, .ref (a_T 0)), (1, .int w1)] → W p l e (rmH 2) s m (List.toArray [.ref (a_T 0)]) below meth c H locs 0 0 (MQ below (va_Qi (fun r2 (_ : Unit) => r2 = r) (fun _ t => POST g A (cl_X12 g a_T zu_T v_T ++ X) t) A) (List.toArray [.ref (a_T 0)]) s 0 0 A) (F0 m 109 ls []) := by
    intro u_T w1 H locs ls hf hw hl
    unfold f_X12_leafRead_J109 at hf
    refine lv_iload_n hx hb dX12_leafRead_109 rfl (lv_at hl 1 rfl) ?_
    refine lv_if_ge (tgt := 129) hx hb dX12_leafRead_110 (by decide) (fun h_35 => ?_) (fun h_35 => ?_)
    · replace hf := tx_pos hf h_35
      exact J129 hf hw (lv_sub hl [0, 1] rfl)
    · replace hf := tx_neg hf h_35
      refine lv_aload_n hx hb dX12_leafRead_113 rfl (lv_at hl 0 rfl) ?_
      refine gf_X12_174 S hE hw 0 rfl rfl dX12_leafRead_114 ?_
      refine lv_sipush (v := 9999) hx hb dX12_leafRead_117 (by decide) ?_
      refine lv_icmp_le (tgt := 129) hx hb dX12_leafRead_120 (by decide) (fun h_36 => ?_) (fun h_36 => ?_)
      · replace hf := tx_pos hf h_36
        exact J129 hf hw (lv_sub hl [0, 1] rfl)
      · replace hf := tx_neg hf h_36
        refine lv_aload_n hx hb dX12_leafRead_123 rfl (lv_at hl 0 rfl) ?_
        refine lv_iconst (v := 2) hx hb dX12_leafRead_124 (by decide) ?_
        obtain ⟨r_38, u_T_39, h_37, hf⟩ := tx_b2_e hf
        refine tx_ci hw (tx_runV S hE hw (c_X12_wrong h_37) lk_X12_187 (q0 := 0) rfl rfl rfl hl.1 (rest := []) rfl (Nat.le_of_ble_eq_true rfl) ⟨by decide, by decide⟩ dX12_leafRead_125 ⟨Nat.zero_le _, Nat.zero_le _⟩) (fun H locs hw => ?_)
        obtain ⟨h_40, hf⟩ := tx_bz_e hf
        obtain ⟨e0, e1⟩ := tx_in2 hf
        rw [← e0, ← e1]
        exact tx_zret S hr hlk h_40 hw dX12_leafRead_128
  have J86 : ∀ {u_T : S32} {H : Heap} {locs : List Loc} {ls : Array Slot}, f_X12_leafRead_J86 fu v_T u_T = some (r, zu_T) → WD g A s.heap (cl_X12 g a_T u_T v_T ++ X) H locs → lv_has ls 2 [(0, .ref (a_T 0))] → W p l e (rmH 2) s m (List.toArray [.ref (a_T 0)]) below meth c H locs 0 0 (MQ below (va_Qi (fun r2 (_ : Unit) => r2 = r) (fun _ t => POST g A (cl_X12 g a_T zu_T v_T ++ X) t) A) (List.toArray [.ref (a_T 0)]) s 0 0 A) (F0 m 86 ls []) := by
    intro u_T H locs ls hf hw hl
    unfold f_X12_leafRead_J86 at hf
    refine lv_aload_n hx hb dX12_leafRead_86 rfl (lv_at hl 0 rfl) ?_
    obtain ⟨r_28, h_27, hf⟩ := tx_b1_e hf
    refine tx_ci hw (tx_runV S hE hw (c_X12_nameMet h_27) lk_X12_303 (q0 := 0) rfl rfl rfl hl.1 (rest := []) rfl (Nat.le_of_ble_eq_true rfl) ⟨by decide, by decide⟩ dX12_leafRead_87 ⟨Nat.zero_le _, Nat.zero_le _⟩) (fun H locs hw => ?_)
    refine lv_istore_n (lv' := [(1, .int r_28), (0, .ref (a_T 0))]) hx hb dX12_leafRead_90 rfl hl (by decide) rfl (fun ls hl => ?_)
    refine lv_iload_n hx hb dX12_leafRead_91 rfl (lv_at hl 0 rfl) ?_
    refine lv_if_ge (tgt := 109) hx hb dX12_leafRead_92 (by decide) (fun h_29 => ?_) (fun h_29 => ?_)
    · replace hf := tx_pos hf h_29
      exact J109 hf hw (lv_sub hl [1, 0] rfl)
    · replace hf := tx_neg hf h_29
      refine lv_aload_n hx hb dX12_leafRead_95 rfl (lv_at hl 1 rfl) ?_
      refine gf_X12_163 S hE hw 0 rfl rfl dX12_leafRead_96 ?_
      refine lv_iconst (v := 3) hx hb dX12_leafRead_99 (by decide) ?_
      refine lv_icmp_eq (tgt := 109) hx hb dX12_leafRead_100 (by decide) (fun h_30 => ?_) (fun h_30 => ?_)
      · replace hf := tx_pos hf h_30
        exact J109 hf hw (lv_sub hl [1, 0] rfl)
      · replace hf := tx_neg hf h_30
        refine lv_aload_n hx hb dX12_leafRead_103 rfl (lv_at hl 1 rfl) ?_
        refine lv_iconst (v := 1) hx hb dX12_leafRead_104 (by decide) ?_
        obtain ⟨r_32, u_T_33, h_31, hf⟩ := tx_b2_e hf
        refine tx_ci hw (tx_runV S hE hw (c_X12_wrong h_31) lk_X12_187 (q0 := 0) rfl rfl rfl hl.1 (rest := []) rfl (Nat.le_of_ble_eq_true rfl) ⟨by decide, by decide⟩ dX12_leafRead_105 ⟨Nat.zero_le _, Nat.zero_le _⟩) (fun H locs hw => ?_)
        obtain ⟨h_34, hf⟩ := tx_bz_e hf
        obtain ⟨e0, e1⟩ := tx_in2 hf
        rw [← e0, ← e1]
        exact tx_zret S hr hlk h_34 hw dX12_leafRead_108
  unfold f_X12_leafRead at hf
  refine lv_aload_n hx hb dX12_leafRead_0 rfl (lv_at hl 0 rfl) ?_
  refine lv_bipush (v := 40) hx hb dX12_leafRead_1 (by decide) ?_
  obtain ⟨r_2, h_1, hf⟩ := tx_b1_e hf
  refine tx_ci hw (tx_runV S hE hw (c_X12_isSign h_1) lk_X12_200 (q0 := 0) rfl rfl rfl hl.1 (rest := []) rfl (Nat.le_of_ble_eq_true rfl) ⟨by decide, by decide⟩ dX12_leafRead_3 ⟨Nat.zero_le _, Nat.zero_le _⟩) (fun H locs hw => ?_)
  refine lv_if_eq (tgt := 50) hx hb dX12_leafRead_6 (by decide) (fun h_3 => ?_) (fun h_3 => ?_)
  · replace hf := tx_pos hf h_3
    refine lv_aload_n hx hb dX12_leafRead_50 rfl (lv_at hl 0 rfl) ?_
    refine lv_bipush (v := 12) hx hb dX12_leafRead_51 (by decide) ?_
    obtain ⟨r_5, h_4, hf⟩ := tx_b1_e hf
    refine tx_ci hw (tx_runV S hE hw (c_X12_isKey h_4) lk_X12_297 (q0 := 0) rfl rfl rfl hl.1 (rest := []) rfl (Nat.le_of_ble_eq_true rfl) ⟨by decide, by decide⟩ dX12_leafRead_53 ⟨Nat.zero_le _, Nat.zero_le _⟩) (fun H locs hw => ?_)
    refine lv_if_eq (tgt := 86) hx hb dX12_leafRead_56 (by decide) (fun h_6 => ?_) (fun h_6 => ?_)
    · replace hf := tx_pos hf h_6
      exact J86 hf hw (lv_sub hl [0] rfl)
    · replace hf := tx_neg hf h_6
      refine lv_aload_n hx hb dX12_leafRead_59 rfl (lv_at hl 0 rfl) ?_
      refine gf_X12_293 S hE hw 0 rfl rfl dX12_leafRead_60 ?_
      refine lv_if_eq (tgt := 86) hx hb dX12_leafRead_63 (by decide) (fun h_7 => ?_) (fun h_7 => ?_)
      · replace hf := tx_pos hf h_7
        exact J86 hf hw (lv_sub hl [0] rfl)
      · replace hf := tx_neg hf h_7
        refine lv_aload_n hx hb dX12_leafRead_66 rfl (lv_at hl 0 rfl) ?_
        obtain ⟨r_9, u_T_10, h_8, hf⟩ := tx_b2_e hf
        refine tx_ci hw (tx_runV S hE hw (c_X12_isCounted h_8) lk_X12_300 (q0 := 0) rfl rfl rfl hl.1 (rest := []) rfl (Nat.le_of_ble_eq_true rfl) ⟨by decide, by decide⟩ dX12_leafRead_67 ⟨Nat.zero_le _, Nat.zero_le _⟩) (fun H locs hw => ?_)
        refine lv_if_ne (tgt := 75) hx hb dX12_leafRead_70 (by decide) (fun h_11 => ?_) (fun h_11 => ?_)
        · replace hf := tx_neg hf h_11
          refine lv_aload_n hx hb dX12_leafRead_75 rfl (lv_at hl 0 rfl) ?_
          refine lv_iconst (v := 2) hx hb dX12_leafRead_76 (by decide) ?_
          obtain ⟨u_T_13, h_12, hf⟩ := tx_b1_e hf
          refine tx_cv hw (tx_runV S hE hw (c_X12_waitsFor h_12) lk_X12_289 (q0 := 0) rfl rfl rfl hl.1 (rest := []) rfl (Nat.le_of_ble_eq_true rfl) ⟨by decide, by decide⟩ dX12_leafRead_77 ⟨Nat.zero_le _, Nat.zero_le _⟩) (fun H locs hw => ?_)
          refine lv_aload_n hx hb dX12_leafRead_80 rfl (lv_at hl 0 rfl) ?_
          obtain ⟨u_T_15, h_14, hf⟩ := tx_b1_e hf
          refine tx_cv hw (tx_runV S hE hw (c_X12_token h_14) lk_X12_197 (q0 := 0) rfl rfl rfl hl.1 (rest := []) rfl (Nat.le_of_ble_eq_true rfl) ⟨by decide, by decide⟩ dX12_leafRead_81 ⟨Nat.zero_le _, Nat.zero_le _⟩) (fun H locs hw => ?_)
          refine lv_iconst (v := 1) hx hb dX12_leafRead_84 (by decide) ?_
          obtain ⟨e0, e1⟩ := tx_in2 hf
          rw [← e0, ← e1]
          exact tx_zret S hr hlk (by decide) hw dX12_leafRead_85
        · replace hf := tx_pos hf h_11
          refine lv_iconst (v := 0) hx hb dX12_leafRead_73 (by decide) ?_
          obtain ⟨e0, e1⟩ := tx_in2 hf
          rw [← e0, ← e1]
          exact tx_zret S hr hlk (by decide) hw dX12_leafRead_74
  · replace hf := tx_neg hf h_3
    refine lv_aload_n hx hb dX12_leafRead_9 rfl (lv_at hl 0 rfl) ?_
    refine gf_X12_286 S hE hw 0 rfl rfl dX12_leafRead_10 ?_
    refine lv_bipush (v := 8) hx hb dX12_leafRead_13 (by decide) ?_
    refine lv_icmp_ne (tgt := 24) hx hb dX12_leafRead_15 (by decide) (fun h_16 => ?_) (fun h_16 => ?_)
    · replace hf := tx_neg hf h_16
      refine lv_aload_n hx hb dX12_leafRead_24 rfl (lv_at hl 0 rfl) ?_
      refine lv_dup hx hb dX12_leafRead_25 rfl ?_
      refine gf_X12_286 S hE hw 0 rfl rfl dX12_leafRead_26 ?_
      refine lv_iconst (v := 1) hx hb dX12_leafRead_29 (by decide) ?_
      refine lv_iadd hx hb dX12_leafRead_30 ?_
      obtain ⟨u_T_17, eu_T_17⟩ : ∃ z : S32, z = up2 u_T 0 42 ((u_T 0 42) + (1 : Int32)) := ⟨_, rfl⟩
      replace hf := tx_let_e hf eu_T_17
      refine pf_X12_286 (ws' := cl_X12 g a_T u_T_17 v_T ++ X) S hE hw rfl rfl 0 rfl (Nat.le_of_ble_eq_true rfl) (by rw [eu_T_17]; rfl) dX12_leafRead_31 (fun H locs hw => ?_)
      refine lv_aload_n hx hb dX12_leafRead_34 rfl (lv_at hl 0 rfl) ?_
      refine lv_iconst (v := 0) hx hb dX12_leafRead_35 (by decide) ?_
      obtain ⟨u_T_19, h_18, hf⟩ := tx_b1_e hf
      refine tx_cv hw (tx_runV S hE hw (c_X12_waitsFor h_18) lk_X12_289 (q0 := 0) rfl rfl rfl hl.1 (rest := []) rfl (Nat.le_of_ble_eq_true rfl) ⟨by decide, by decide⟩ dX12_leafRead_36 ⟨Nat.zero_le _, Nat.zero_le _⟩) (fun H locs hw => ?_)
      refine lv_aload_n hx hb dX12_leafRead_39 rfl (lv_at hl 0 rfl) ?_
      refine lv_iconst (v := 1) hx hb dX12_leafRead_40 (by decide) ?_
      obtain ⟨u_T_20, eu_T_20⟩ : ∃ z : S32, z = up2 u_T_19 0 45 (1 : Int32) := ⟨_, rfl⟩
      replace hf := tx_let_e hf eu_T_20
      refine pf_X12_293 (ws' := cl_X12 g a_T u_T_20 v_T ++ X) S hE hw (by decide) (by decide) 0 rfl (Nat.le_of_ble_eq_true rfl) (by rw [eu_T_20]; rfl) dX12_leafRead_41 (fun H locs hw => ?_)
      refine lv_aload_n hx hb dX12_leafRead_44 rfl (lv_at hl 0 rfl) ?_
      obtain ⟨u_T_22, h_21, hf⟩ := tx_b1_e hf
      refine tx_cv hw (tx_runV S hE hw (c_X12_token h_21) lk_X12_197 (q0 := 0) rfl rfl rfl hl.1 (rest := []) rfl (Nat.le_of_ble_eq_true rfl) ⟨by decide, by decide⟩ dX12_leafRead_45 ⟨Nat.zero_le _, Nat.zero_le _⟩) (fun H locs hw => ?_)
      refine lv_iconst (v := 1) hx hb dX12_leafRead_48 (by decide) ?_
      obtain ⟨e0, e1⟩ := tx_in2 hf
      rw [← e0, ← e1]
      exact tx_zret S hr hlk (by decide) hw dX12_leafRead_49
    · replace hf := tx_pos hf h_16
      refine lv_aload_n hx hb dX12_leafRead_18 rfl (lv_at hl 0 rfl) ?_
      refine lv_iconst (v := 2) hx hb dX12_leafRead_19 (by decide) ?_
      obtain ⟨r_24, u_T_25, h_23, hf⟩ := tx_b2_e hf
      refine tx_ci hw (tx_runV S hE hw (c_X12_wrong h_23) lk_X12_187 (q0 := 0) rfl rfl rfl hl.1 (rest := []) rfl (Nat.le_of_ble_eq_true rfl) ⟨by decide, by decide⟩ dX12_leafRead_20 ⟨Nat.zero_le _, Nat.zero_le _⟩) (fun H locs hw => ?_)
      obtain ⟨h_26, hf⟩ := tx_bz_e hf
      obtain ⟨e0, e1⟩ := tx_in2 hf
      rw [← e0, ← e1]
      exact tx_zret S hr hlk h_26 hw dX12_leafRead_23
def f_X12_sumRead_J48 (fu : Nat) (v_T : S64) (K25 : S32 → Option (Int32 × S32)) (u_T : S32) : Option (Int32 × S32) := if (u_T 0 44) = (0 : Int32) then (tx_b2 (f_X12_signs fu v_T u_T) fun (r_15 : Int32) (u_T_16 : S32) => if r_15 = (0 : Int32) then (some ((0 : Int32), u_T_16)) else (K25 u_T_16)) else (tx_b2 (f_X12_leafRead fu v_T u_T) fun (r_19 : Int32) (u_T_20 : S32) => if r_19 = (0 : Int32) then (some ((0 : Int32), u_T_20)) else (K25 u_T_20))
def f_X12_sumRead_J25 (fu : Nat) (v_T : S64) (K25 : S32 → Option (Int32 × S32)) (u_T : S32) : Option (Int32 × S32) := tx_b1 (f_X12_isSign fu u_T v_T (59 : Int32)) fun (r_7 : Int32) => if r_7 = (0 : Int32) then (f_X12_sumRead_J48 fu v_T K25 u_T) else (if (u_T 0 44) = (0 : Int32) then (if (u_T 0 42) ≤ (0 : Int32) then (tx_b1 (f_X12_bind fu v_T u_T (1 : Int32)) fun (u_T_12 : S32) => some ((1 : Int32), u_T_12)) else (f_X12_sumRead_J48 fu v_T K25 u_T)) else (f_X12_sumRead_J48 fu v_T K25 u_T))
def f_X12_sumRead_L25 (fu : Nat) (v_T : S64) : Nat → S32 → Option (Int32 × S32)
  | 0 => fun _ => none
  | n + 1 => f_X12_sumRead_J25 fu v_T (f_X12_sumRead_L25 fu v_T n)
def f_X12_sumRead (fu : Nat) (v_T : S64) (u_T : S32) : Option (Int32 × S32) := tx_let (up2 u_T 0 40 (0 : Int32)) fun (u_T_1 : S32) => tx_let (up2 u_T_1 0 41 (0 : Int32)) fun (u_T_2 : S32) => tx_let (up2 u_T_2 0 42 (0 : Int32)) fun (u_T_3 : S32) => tx_let (up2 u_T_3 0 44 (1 : Int32)) fun (u_T_4 : S32) => tx_let (up2 u_T_4 0 45 (1 : Int32)) fun (u_T_5 : S32) => f_X12_sumRead_L25 fu v_T fu u_T_5
set_option maxHeartbeats 4000000 in
set_option maxRecDepth 100000 in
theorem c_X12_sumRead {l : Launch} {g : GG} {A : Nat → Prop} {X : va_W} {fu : Nat} {a_T : Nat → Nat} {u_T : S32} {v_T : S64} {r : Int32} {zu_T : S32} (hf : f_X12_sumRead fu v_T u_T = some (r, zu_T)) : MI l yX12_sumRead cX12_sumRead 1 (some .boolean) 3 g A (cl_X12 g a_T u_T v_T ++ X) [.ref (a_T 0)] r (cl_X12 g a_T zu_T v_T ++ X) := by
  refine tx_start (av := [.ref (a_T 0)]) (by decide) (Nat.le_of_ble_eq_true rfl) ?_
  intro p e s m below meth c ls S hr hlk hE hw hl
  have S : CallFix p m c cX12_sumRead 1 s (List.toArray [.ref (a_T 0)]) (Cond.code yX12_sumRead cX12_sumRead 1 (some .boolean) :: allW) RX12 := S
  have hx := S.1
  have hb := S.2.1
  have hown := S.2.2.2.1
  have hts : ∀ w ∈ allW, w.before (List.toArray [.ref (a_T 0)]) s = true := fun w h => S.2.2.2.2 w (List.mem_cons_of_mem _ h)
  have hl : lv_has ls 1 [(0, .ref (a_T 0))] := hl
  have J48 : ∀ {K25 : S32 → Option (Int32 × S32)} (hK25 : ∀ {u_T : S32} {H : Heap} {locs : List Loc} {ls : Array Slot}, K25 u_T = some (r, zu_T) → WD g A s.heap (cl_X12 g a_T u_T v_T ++ X) H locs → lv_has ls 1 [(0, .ref (a_T 0))] → W p l e (rmH 3) s m (List.toArray [.ref (a_T 0)]) below meth c H locs 0 0 (MQ below (va_Qi (fun r2 (_ : Unit) => r2 = r) (fun _ t => POST g A (cl_X12 g a_T zu_T v_T ++ X) t) A) (List.toArray [.ref (a_T 0)]) s 0 0 A) (F0 m 25 ls [])), ∀ {u_T : S32} {H : Heap} {locs : List Loc} {ls : Array Slot}, f_X12_sumRead_J48 fu v_T K25 u_T = some (r, zu_T) → WD g A s.heap (cl_X12 g a_T u_T v_T ++ X) H locs → lv_has ls 1 [(0, .ref (a_T 0))] → W p l e (rmH 3) s m (List.toArray [.ref (a_T 0)]) below meth c H locs 0 0 (MQ below (va_Qi (fun r2 (_ : Unit) => r2 = r) (fun _ t => POST g A (cl_X12 g a_T zu_T v_T ++ X) t) A) (List.toArray [.ref (a_T 0)]) s 0 0 A) (F0 m 48 ls []) := by
    intro K25 hK25 u_T H locs ls hf hw hl
    unfold f_X12_sumRead_J48 at hf
    refine lv_aload_n hx hb dX12_sumRead_48 rfl (lv_at hl 0 rfl) ?_
    refine gf_X12_306 S hE hw 0 rfl rfl dX12_sumRead_49 ?_
    refine lv_if_eq (tgt := 65) hx hb dX12_sumRead_52 (by decide) (fun h_13 => ?_) (fun h_13 => ?_)
    · replace hf := tx_pos hf h_13
      refine lv_aload_n hx hb dX12_sumRead_65 rfl (lv_at hl 0 rfl) ?_
      obtain ⟨r_15, u_T_16, h_14, hf⟩ := tx_b2_e hf
      refine tx_ci hw (tx_runV S hE hw (c_X12_signs h_14) lk_X12_315 (q0 := 0) rfl rfl rfl hl.1 (rest := []) rfl (Nat.le_of_ble_eq_true rfl) ⟨by decide, by decide⟩ dX12_sumRead_66 ⟨Nat.zero_le _, Nat.zero_le _⟩) (fun H locs hw => ?_)
      refine lv_if_ne (tgt := 25) hx hb dX12_sumRead_69 (by decide) (fun h_17 => ?_) (fun h_17 => ?_)
      · replace hf := tx_neg hf h_17
        exact hK25 hf hw (lv_sub hl [0] rfl)
      · replace hf := tx_pos hf h_17
        refine lv_iconst (v := 0) hx hb dX12_sumRead_72 (by decide) ?_
        obtain ⟨e0, e1⟩ := tx_in2 hf
        rw [← e0, ← e1]
        exact tx_zret S hr hlk (by decide) hw dX12_sumRead_73
    · replace hf := tx_neg hf h_13
      refine lv_aload_n hx hb dX12_sumRead_55 rfl (lv_at hl 0 rfl) ?_
      obtain ⟨r_19, u_T_20, h_18, hf⟩ := tx_b2_e hf
      refine tx_ci hw (tx_runV S hE hw (c_X12_leafRead h_18) lk_X12_312 (q0 := 0) rfl rfl rfl hl.1 (rest := []) rfl (Nat.le_of_ble_eq_true rfl) ⟨by decide, by decide⟩ dX12_sumRead_56 ⟨Nat.zero_le _, Nat.zero_le _⟩) (fun H locs hw => ?_)
      refine lv_if_eq (tgt := 72) hx hb dX12_sumRead_59 (by decide) (fun h_21 => ?_) (fun h_21 => ?_)
      · replace hf := tx_pos hf h_21
        refine lv_iconst (v := 0) hx hb dX12_sumRead_72 (by decide) ?_
        obtain ⟨e0, e1⟩ := tx_in2 hf
        rw [← e0, ← e1]
        exact tx_zret S hr hlk (by decide) hw dX12_sumRead_73
      · replace hf := tx_neg hf h_21
        refine lv_goto (tgt := 25) hx hb dX12_sumRead_62 (by decide) ?_
        exact hK25 hf hw (lv_sub hl [0] rfl)
  have J25 : ∀ {K25 : S32 → Option (Int32 × S32)} (hK25 : ∀ {u_T : S32} {H : Heap} {locs : List Loc} {ls : Array Slot}, K25 u_T = some (r, zu_T) → WD g A s.heap (cl_X12 g a_T u_T v_T ++ X) H locs → lv_has ls 1 [(0, .ref (a_T 0))] → W p l e (rmH 3) s m (List.toArray [.ref (a_T 0)]) below meth c H locs 0 0 (MQ below (va_Qi (fun r2 (_ : Unit) => r2 = r) (fun _ t => POST g A (cl_X12 g a_T zu_T v_T ++ X) t) A) (List.toArray [.ref (a_T 0)]) s 0 0 A) (F0 m 25 ls [])), ∀ {u_T : S32} {H : Heap} {locs : List Loc} {ls : Array Slot}, f_X12_sumRead_J25 fu v_T K25 u_T = some (r, zu_T) → WD g A s.heap (cl_X12 g a_T u_T v_T ++ X) H locs → lv_has ls 1 [(0, .ref (a_T 0))] → W p l e (rmH 3) s m (List.toArray [.ref (a_T 0)]) below meth c H locs 0 0 (MQ below (va_Qi (fun r2 (_ : Unit) => r2 = r) (fun _ t => POST g A (cl_X12 g a_T zu_T v_T ++ X) t) A) (List.toArray [.ref (a_T 0)]) s 0 0 A) (F0 m 25 ls []) := by
    intro K25 hK25 u_T H locs ls hf hw hl
    unfold f_X12_sumRead_J25 at hf
    refine lv_aload_n hx hb dX12_sumRead_25 rfl (lv_at hl 0 rfl) ?_
    refine lv_bipush (v := 59) hx hb dX12_sumRead_26 (by decide) ?_
    obtain ⟨r_7, h_6, hf⟩ := tx_b1_e hf
    refine tx_ci hw (tx_runV S hE hw (c_X12_isSign h_6) lk_X12_200 (q0 := 0) rfl rfl rfl hl.1 (rest := []) rfl (Nat.le_of_ble_eq_true rfl) ⟨by decide, by decide⟩ dX12_sumRead_28 ⟨Nat.zero_le _, Nat.zero_le _⟩) (fun H locs hw => ?_)
    refine lv_if_eq (tgt := 48) hx hb dX12_sumRead_31 (by decide) (fun h_8 => ?_) (fun h_8 => ?_)
    · replace hf := tx_pos hf h_8
      exact J48 hK25 hf hw (lv_sub hl [0] rfl)
    · replace hf := tx_neg hf h_8
      refine lv_aload_n hx hb dX12_sumRead_34 rfl (lv_at hl 0 rfl) ?_
      refine gf_X12_306 S hE hw 0 rfl rfl dX12_sumRead_35 ?_
      refine lv_if_ne (tgt := 48) hx hb dX12_sumRead_38 (by decide) (fun h_9 => ?_) (fun h_9 => ?_)
      · replace hf := tx_neg hf h_9
        exact J48 hK25 hf hw (lv_sub hl [0] rfl)
      · replace hf := tx_pos hf h_9
        refine lv_aload_n hx hb dX12_sumRead_41 rfl (lv_at hl 0 rfl) ?_
        refine gf_X12_286 S hE hw 0 rfl rfl dX12_sumRead_42 ?_
        refine lv_if_le (tgt := 74) hx hb dX12_sumRead_45 (by decide) (fun h_10 => ?_) (fun h_10 => ?_)
        · replace hf := tx_pos hf h_10
          refine lv_aload_n hx hb dX12_sumRead_74 rfl (lv_at hl 0 rfl) ?_
          refine lv_iconst (v := 1) hx hb dX12_sumRead_75 (by decide) ?_
          obtain ⟨u_T_12, h_11, hf⟩ := tx_b1_e hf
          refine tx_cv hw (tx_runV S hE hw (c_X12_bind h_11) lk_X12_309 (q0 := 0) rfl rfl rfl hl.1 (rest := []) rfl (Nat.le_of_ble_eq_true rfl) ⟨by decide, by decide⟩ dX12_sumRead_76 ⟨Nat.zero_le _, Nat.zero_le _⟩) (fun H locs hw => ?_)
          refine lv_iconst (v := 1) hx hb dX12_sumRead_79 (by decide) ?_
          obtain ⟨e0, e1⟩ := tx_in2 hf
          rw [← e0, ← e1]
          exact tx_zret S hr hlk (by decide) hw dX12_sumRead_80
        · replace hf := tx_neg hf h_10
          exact J48 hK25 hf hw (lv_sub hl [0] rfl)
  have L25 : ∀ (n : Nat), ∀ {u_T : S32} {H : Heap} {locs : List Loc} {ls : Array Slot}, f_X12_sumRead_L25 fu v_T n u_T = some (r, zu_T) → WD g A s.heap (cl_X12 g a_T u_T v_T ++ X) H locs → lv_has ls 1 [(0, .ref (a_T 0))] → W p l e (rmH 3) s m (List.toArray [.ref (a_T 0)]) below meth c H locs 0 0 (MQ below (va_Qi (fun r2 (_ : Unit) => r2 = r) (fun _ t => POST g A (cl_X12 g a_T zu_T v_T ++ X) t) A) (List.toArray [.ref (a_T 0)]) s 0 0 A) (F0 m 25 ls []) := by
    intro  n
    induction n with
    | zero => intro u_T H locs ls hf; exact absurd hf (by intro q; cases q)
    | succ n ih => exact fun hf hw hl => J25 ih hf hw hl
  unfold f_X12_sumRead at hf
  refine lv_aload_n hx hb dX12_sumRead_0 rfl (lv_at hl 0 rfl) ?_
  refine lv_iconst (v := 0) hx hb dX12_sumRead_1 (by decide) ?_
  obtain ⟨u_T_1, eu_T_1⟩ : ∃ z : S32, z = up2 u_T 0 40 (0 : Int32) := ⟨_, rfl⟩
  replace hf := tx_let_e hf eu_T_1
  refine pf_X12_271 (ws' := cl_X12 g a_T u_T_1 v_T ++ X) S hE hw rfl rfl 0 rfl (Nat.le_of_ble_eq_true rfl) (by rw [eu_T_1]; rfl) dX12_sumRead_2 (fun H locs hw => ?_)
  refine lv_aload_n hx hb dX12_sumRead_5 rfl (lv_at hl 0 rfl) ?_
  refine lv_iconst (v := 0) hx hb dX12_sumRead_6 (by decide) ?_
  obtain ⟨u_T_2, eu_T_2⟩ : ∃ z : S32, z = up2 u_T_1 0 41 (0 : Int32) := ⟨_, rfl⟩
  replace hf := tx_let_e hf eu_T_2
  refine pf_X12_268 (ws' := cl_X12 g a_T u_T_2 v_T ++ X) S hE hw rfl rfl 0 rfl (Nat.le_of_ble_eq_true rfl) (by rw [eu_T_2]; rfl) dX12_sumRead_7 (fun H locs hw => ?_)
  refine lv_aload_n hx hb dX12_sumRead_10 rfl (lv_at hl 0 rfl) ?_
  refine lv_iconst (v := 0) hx hb dX12_sumRead_11 (by decide) ?_
  obtain ⟨u_T_3, eu_T_3⟩ : ∃ z : S32, z = up2 u_T_2 0 42 (0 : Int32) := ⟨_, rfl⟩
  replace hf := tx_let_e hf eu_T_3
  refine pf_X12_286 (ws' := cl_X12 g a_T u_T_3 v_T ++ X) S hE hw rfl rfl 0 rfl (Nat.le_of_ble_eq_true rfl) (by rw [eu_T_3]; rfl) dX12_sumRead_12 (fun H locs hw => ?_)
  refine lv_aload_n hx hb dX12_sumRead_15 rfl (lv_at hl 0 rfl) ?_
  refine lv_iconst (v := 1) hx hb dX12_sumRead_16 (by decide) ?_
  obtain ⟨u_T_4, eu_T_4⟩ : ∃ z : S32, z = up2 u_T_3 0 44 (1 : Int32) := ⟨_, rfl⟩
  replace hf := tx_let_e hf eu_T_4
  refine pf_X12_306 (ws' := cl_X12 g a_T u_T_4 v_T ++ X) S hE hw (by decide) (by decide) 0 rfl (Nat.le_of_ble_eq_true rfl) (by rw [eu_T_4]; rfl) dX12_sumRead_17 (fun H locs hw => ?_)
  refine lv_aload_n hx hb dX12_sumRead_20 rfl (lv_at hl 0 rfl) ?_
  refine lv_iconst (v := 1) hx hb dX12_sumRead_21 (by decide) ?_
  obtain ⟨u_T_5, eu_T_5⟩ : ∃ z : S32, z = up2 u_T_4 0 45 (1 : Int32) := ⟨_, rfl⟩
  replace hf := tx_let_e hf eu_T_5
  refine pf_X12_293 (ws' := cl_X12 g a_T u_T_5 v_T ++ X) S hE hw (by decide) (by decide) 0 rfl (Nat.le_of_ble_eq_true rfl) (by rw [eu_T_5]; rfl) dX12_sumRead_22 (fun H locs hw => ?_)
  exact L25 fu hf hw (lv_sub hl [0] rfl)
def f_X12_lineRead_J17 (fu : Nat) (v_T : S64) (u_T : S32) : Option (Int32 × S32) := tx_b2 (f_X12_wrong fu v_T u_T (1 : Int32)) fun (r_65 : Int32) (u_T_66 : S32) => tx_bz r_65 <| some (r_65, u_T_66)
def f_X12_lineRead_J221 (fu : Nat) (v_T : S64) (u_T : S32) (w1 : Int32) : Option (Int32 × S32) := if w1 = (0 : Int32) then (some ((0 : Int32), u_T)) else (tx_b1 (f_X12_isSign fu u_T v_T (59 : Int32)) fun (r_56 : Int32) => if r_56 = (0 : Int32) then (tx_b2 (f_X12_wrong fu v_T u_T (1 : Int32)) fun (r_61 : Int32) (u_T_62 : S32) => tx_bz r_61 <| some (r_61, u_T_62)) else (tx_b1 (f_X12_token fu v_T u_T) fun (u_T_59 : S32) => some ((1 : Int32), u_T_59)))
def f_X12_lineRead_J154 (fu : Nat) (v_T : S64) (u_T : S32) : Option (Int32 × S32) := tx_b2 (f_X12_wrong fu v_T u_T (1 : Int32)) fun (r_51 : Int32) (u_T_52 : S32) => tx_bz r_51 <| some (r_51, u_T_52)
def f_X12_lineRead (fu : Nat) (v_T : S64) (u_T : S32) : Option (Int32 × S32) := if (u_T 0 8) = (1 : Int32) then (if (u_T 0 9) ≤ (6 : Int32) then (if u_T 0 9 = (0 : Int32) then (tx_b2 (f_X12_manLine fu v_T u_T) fun (r_5 : Int32) (u_T_6 : S32) => f_X12_lineRead_J221 fu v_T u_T_6 r_5) else if u_T 0 9 = (1 : Int32) then (tx_b2 (f_X12_thoughtLine fu v_T u_T) fun (r_9 : Int32) (u_T_10 : S32) => f_X12_lineRead_J221 fu v_T u_T_10 r_9) else if u_T 0 9 = (2 : Int32) then (tx_b2 (f_X12_readerLine fu v_T u_T) fun (r_13 : Int32) (u_T_14 : S32) => f_X12_lineRead_J221 fu v_T u_T_14 r_13) else if u_T 0 9 = (3 : Int32) then (tx_b2 (f_X12_onceLine fu v_T u_T (0 : Int32) (0 : Int32) (100 : Int32)) fun (r_17 : Int32) (u_T_18 : S32) => f_X12_lineRead_J221 fu v_T u_T_18 r_17) else if u_T 0 9 = (4 : Int32) then (tx_b2 (f_X12_onceLine fu v_T u_T (1 : Int32) (1 : Int32) (99 : Int32)) fun (r_21 : Int32) (u_T_22 : S32) => f_X12_lineRead_J221 fu v_T u_T_22 r_21) else if u_T 0 9 = (5 : Int32) then (tx_b2 (f_X12_onceLine fu v_T u_T (2 : Int32) (0 : Int32) (99999 : Int32)) fun (r_25 : Int32) (u_T_26 : S32) => f_X12_lineRead_J221 fu v_T u_T_26 r_25) else (tx_b1 (f_X12_token fu v_T u_T) fun (u_T_28 : S32) => if (u_T_28 0 8) = (1 : Int32) then (if (u_T_28 0 9) < (7 : Int32) then (f_X12_lineRead_J154 fu v_T u_T_28) else (if (u_T_28 0 9) ≤ (9 : Int32) then (tx_let (((3 : Int32) + (u_T_28 0 9)) - (7 : Int32)) fun (y_32 : Int32) => tx_ck y_32 6 <| if (u_T_28 33 y_32.toNatClampNeg) = (0 : Int32) then (tx_ck y_32 6 <| tx_let (up2 u_T_28 33 y_32.toNatClampNeg ((1 : Int32) &&& 1)) fun (u_T_36 : S32) => tx_b1 (f_X12_token fu v_T u_T_36) fun (u_T_38 : S32) => tx_ck y_32 6 <| tx_let (up2 u_T_38 34 y_32.toNatClampNeg (u_T_38 0 19)) fun (u_T_40 : S32) => tx_b2 (f_X12_sumRead fu v_T u_T_40) fun (r_42 : Int32) (u_T_43 : S32) => tx_ck y_32 6 <| tx_let (up2 u_T_43 35 y_32.toNatClampNeg (u_T_43 0 19)) fun (u_T_45 : S32) => f_X12_lineRead_J221 fu v_T u_T_45 r_42) else (tx_b2 (f_X12_wrong fu v_T u_T_28 (3 : Int32)) fun (r_47 : Int32) (u_T_48 : S32) => tx_bz r_47 <| some (r_47, u_T_48))) else (f_X12_lineRead_J154 fu v_T u_T_28))) else (f_X12_lineRead_J154 fu v_T u_T_28))) else (f_X12_lineRead_J17 fu v_T u_T)) else (f_X12_lineRead_J17 fu v_T u_T)
set_option maxHeartbeats 4000000 in
set_option maxRecDepth 100000 in
theorem c_X12_lineRead {l : Launch} {g : GG} {A : Nat → Prop} {X : va_W} {fu : Nat} {a_T : Nat → Nat} {u_T : S32} {v_T : S64} {r : Int32} {zu_T : S32} (hf : f_X12_lineRead fu v_T u_T = some (r, zu_T)) : MI l yX12_lineRead cX12_lineRead 3 (some .boolean) 4 g A (cl_X12 g a_T u_T v_T ++ X) [.ref (a_T 0)] r (cl_X12 g a_T zu_T v_T ++ X) := by
  refine tx_start (av := [.ref (a_T 0)]) (by decide) (Nat.le_of_ble_eq_true rfl) ?_
  intro p e s m below meth c ls S hr hlk hE hw hl
  have S : CallFix p m c cX12_lineRead 3 s (List.toArray [.ref (a_T 0)]) (Cond.code yX12_lineRead cX12_lineRead 3 (some .boolean) :: allW) RX12 := S
  have hx := S.1
  have hb := S.2.1
  have hown := S.2.2.2.1
  have hts : ∀ w ∈ allW, w.before (List.toArray [.ref (a_T 0)]) s = true := fun w h => S.2.2.2.2 w (List.mem_cons_of_mem _ h)
  have hl : lv_has ls 3 [(0, .ref (a_T 0))] := hl
  have J17 : ∀ {u_T : S32} {H : Heap} {locs : List Loc} {ls : Array Slot}, f_X12_lineRead_J17 fu v_T u_T = some (r, zu_T) → WD g A s.heap (cl_X12 g a_T u_T v_T ++ X) H locs → lv_has ls 3 [(0, .ref (a_T 0))] → W p l e (rmH 4) s m (List.toArray [.ref (a_T 0)]) below meth c H locs 0 0 (MQ below (va_Qi (fun r2 (_ : Unit) => r2 = r) (fun _ t => POST g A (cl_X12 g a_T zu_T v_T ++ X) t) A) (List.toArray [.ref (a_T 0)]) s 0 0 A) (F0 m 17 ls []) := by
    intro u_T H locs ls hf hw hl
    unfold f_X12_lineRead_J17 at hf
    refine lv_aload_n hx hb dX12_lineRead_17 rfl (lv_at hl 0 rfl) ?_
    refine lv_iconst (v := 1) hx hb dX12_lineRead_18 (by decide) ?_
    obtain ⟨r_65, u_T_66, h_64, hf⟩ := tx_b2_e hf
    refine tx_ci hw (tx_runV S hE hw (c_X12_wrong h_64) lk_X12_187 (q0 := 0) rfl rfl rfl hl.1 (rest := []) rfl (Nat.le_of_ble_eq_true rfl) ⟨by decide, by decide⟩ dX12_lineRead_19 ⟨Nat.zero_le _, Nat.zero_le _⟩) (fun H locs hw => ?_)
    obtain ⟨h_67, hf⟩ := tx_bz_e hf
    obtain ⟨e0, e1⟩ := tx_in2 hf
    rw [← e0, ← e1]
    exact tx_zret S hr hlk h_67 hw dX12_lineRead_22
  have J221 : ∀ {u_T : S32} {w1 : Int32} {H : Heap} {locs : List Loc} {ls : Array Slot}, f_X12_lineRead_J221 fu v_T u_T w1 = some (r, zu_T) → WD g A s.heap (cl_X12 g a_T u_T v_T ++ X) H locs → lv_has ls 3 [(0, .ref (a_T 0)), (1, .int w1)] → W p l e (rmH 4) s m (List.toArray [.ref (a_T 0)]) below meth c H locs 0 0 (MQ below (va_Qi (fun r2 (_ : Unit) => r2 = r) (fun _ t => POST g A (cl_X12 g a_T zu_T v_T ++ X) t) A) (List.toArray [.ref (a_T 0)]) s 0 0 A) (F0 m 221 ls []) := by
    intro u_T w1 H locs ls hf hw hl
    unfold f_X12_lineRead_J221 at hf
    refine lv_iload_n hx hb dX12_lineRead_221 rfl (lv_at hl 1 rfl) ?_
    refine lv_if_ne (tgt := 227) hx hb dX12_lineRead_222 (by decide) (fun h_54 => ?_) (fun h_54 => ?_)
    · replace hf := tx_neg hf h_54
      refine lv_aload_n hx hb dX12_lineRead_227 rfl (lv_at hl 0 rfl) ?_
      refine lv_bipush (v := 59) hx hb dX12_lineRead_228 (by decide) ?_
      obtain ⟨r_56, h_55, hf⟩ := tx_b1_e hf
      refine tx_ci hw (tx_runV S hE hw (c_X12_isSign h_55) lk_X12_200 (q0 := 0) rfl rfl rfl hl.1 (rest := []) rfl (Nat.le_of_ble_eq_true rfl) ⟨by decide, by decide⟩ dX12_lineRead_230 ⟨Nat.zero_le _, Nat.zero_le _⟩) (fun H locs hw => ?_)
      refine lv_if_ne (tgt := 242) hx hb dX12_lineRead_233 (by decide) (fun h_57 => ?_) (fun h_57 => ?_)
      · replace hf := tx_neg hf h_57
        refine lv_aload_n hx hb dX12_lineRead_242 rfl (lv_at hl 0 rfl) ?_
        obtain ⟨u_T_59, h_58, hf⟩ := tx_b1_e hf
        refine tx_cv hw (tx_runV S hE hw (c_X12_token h_58) lk_X12_197 (q0 := 0) rfl rfl rfl hl.1 (rest := []) rfl (Nat.le_of_ble_eq_true rfl) ⟨by decide, by decide⟩ dX12_lineRead_243 ⟨Nat.zero_le _, Nat.zero_le _⟩) (fun H locs hw => ?_)
        refine lv_iconst (v := 1) hx hb dX12_lineRead_246 (by decide) ?_
        obtain ⟨e0, e1⟩ := tx_in2 hf
        rw [← e0, ← e1]
        exact tx_zret S hr hlk (by decide) hw dX12_lineRead_247
      · replace hf := tx_pos hf h_57
        refine lv_aload_n hx hb dX12_lineRead_236 rfl (lv_at hl 0 rfl) ?_
        refine lv_iconst (v := 1) hx hb dX12_lineRead_237 (by decide) ?_
        obtain ⟨r_61, u_T_62, h_60, hf⟩ := tx_b2_e hf
        refine tx_ci hw (tx_runV S hE hw (c_X12_wrong h_60) lk_X12_187 (q0 := 0) rfl rfl rfl hl.1 (rest := []) rfl (Nat.le_of_ble_eq_true rfl) ⟨by decide, by decide⟩ dX12_lineRead_238 ⟨Nat.zero_le _, Nat.zero_le _⟩) (fun H locs hw => ?_)
        obtain ⟨h_63, hf⟩ := tx_bz_e hf
        obtain ⟨e0, e1⟩ := tx_in2 hf
        rw [← e0, ← e1]
        exact tx_zret S hr hlk h_63 hw dX12_lineRead_241
    · replace hf := tx_pos hf h_54
      refine lv_iconst (v := 0) hx hb dX12_lineRead_225 (by decide) ?_
      obtain ⟨e0, e1⟩ := tx_in2 hf
      rw [← e0, ← e1]
      exact tx_zret S hr hlk (by decide) hw dX12_lineRead_226
  have J154 : ∀ {u_T : S32} {H : Heap} {locs : List Loc} {ls : Array Slot}, f_X12_lineRead_J154 fu v_T u_T = some (r, zu_T) → WD g A s.heap (cl_X12 g a_T u_T v_T ++ X) H locs → lv_has ls 3 [(0, .ref (a_T 0))] → W p l e (rmH 4) s m (List.toArray [.ref (a_T 0)]) below meth c H locs 0 0 (MQ below (va_Qi (fun r2 (_ : Unit) => r2 = r) (fun _ t => POST g A (cl_X12 g a_T zu_T v_T ++ X) t) A) (List.toArray [.ref (a_T 0)]) s 0 0 A) (F0 m 154 ls []) := by
    intro u_T H locs ls hf hw hl
    unfold f_X12_lineRead_J154 at hf
    refine lv_aload_n hx hb dX12_lineRead_154 rfl (lv_at hl 0 rfl) ?_
    refine lv_iconst (v := 1) hx hb dX12_lineRead_155 (by decide) ?_
    obtain ⟨r_51, u_T_52, h_50, hf⟩ := tx_b2_e hf
    refine tx_ci hw (tx_runV S hE hw (c_X12_wrong h_50) lk_X12_187 (q0 := 0) rfl rfl rfl hl.1 (rest := []) rfl (Nat.le_of_ble_eq_true rfl) ⟨by decide, by decide⟩ dX12_lineRead_156 ⟨Nat.zero_le _, Nat.zero_le _⟩) (fun H locs hw => ?_)
    obtain ⟨h_53, hf⟩ := tx_bz_e hf
    obtain ⟨e0, e1⟩ := tx_in2 hf
    rw [← e0, ← e1]
    exact tx_zret S hr hlk h_53 hw dX12_lineRead_159
  unfold f_X12_lineRead at hf
  refine lv_aload_n hx hb dX12_lineRead_0 rfl (lv_at hl 0 rfl) ?_
  refine gf_X12_163 S hE hw 0 rfl rfl dX12_lineRead_1 ?_
  refine lv_iconst (v := 1) hx hb dX12_lineRead_4 (by decide) ?_
  refine lv_icmp_ne (tgt := 17) hx hb dX12_lineRead_5 (by decide) (fun h_1 => ?_) (fun h_1 => ?_)
  · replace hf := tx_neg hf h_1
    exact J17 hf hw (lv_sub hl [0] rfl)
  · replace hf := tx_pos hf h_1
    refine lv_aload_n hx hb dX12_lineRead_8 rfl (lv_at hl 0 rfl) ?_
    refine gf_X12_174 S hE hw 0 rfl rfl dX12_lineRead_9 ?_
    refine lv_bipush (v := 6) hx hb dX12_lineRead_12 (by decide) ?_
    refine lv_icmp_le (tgt := 23) hx hb dX12_lineRead_14 (by decide) (fun h_2 => ?_) (fun h_2 => ?_)
    · replace hf := tx_pos hf h_2
      refine lv_aload_n hx hb dX12_lineRead_23 rfl (lv_at hl 0 rfl) ?_
      refine gf_X12_174 S hE hw 0 rfl rfl dX12_lineRead_24 ?_
      by_cases h_3 : u_T 0 9 = (0 : Int32)
      · replace hf := tx_pos hf h_3
        refine lv_tableIn (off := 37) (tgt := 64) hx hb dX12_lineRead_27 (by rw [h_3]; decide) (by rw [h_3]; decide) (by rw [h_3]; rfl) (by decide) ?_
        refine lv_aload_n hx hb dX12_lineRead_64 rfl (lv_at hl 0 rfl) ?_
        obtain ⟨r_5, u_T_6, h_4, hf⟩ := tx_b2_e hf
        refine tx_ci hw (tx_runV S hE hw (c_X12_manLine h_4) lk_X12_249 (q0 := 0) rfl rfl rfl hl.1 (rest := []) rfl (Nat.le_of_ble_eq_true rfl) ⟨by decide, by decide⟩ dX12_lineRead_65 ⟨Nat.zero_le _, Nat.zero_le _⟩) (fun H locs hw => ?_)
        refine lv_istore_n (lv' := [(1, .int r_5), (0, .ref (a_T 0))]) hx hb dX12_lineRead_68 rfl hl (by decide) rfl (fun ls hl => ?_)
        refine lv_goto (tgt := 221) hx hb dX12_lineRead_69 (by decide) ?_
        exact J221 hf hw (lv_sub hl [1, 0] rfl)
      replace hf := tx_neg hf h_3
      by_cases h_7 : u_T 0 9 = (1 : Int32)
      · replace hf := tx_pos hf h_7
        refine lv_tableIn (off := 45) (tgt := 72) hx hb dX12_lineRead_27 (by rw [h_7]; decide) (by rw [h_7]; decide) (by rw [h_7]; rfl) (by decide) ?_
        refine lv_aload_n hx hb dX12_lineRead_72 rfl (lv_at hl 0 rfl) ?_
        obtain ⟨r_9, u_T_10, h_8, hf⟩ := tx_b2_e hf
        refine tx_ci hw (tx_runV S hE hw (c_X12_thoughtLine h_8) lk_X12_253 (q0 := 0) rfl rfl rfl hl.1 (rest := []) rfl (Nat.le_of_ble_eq_true rfl) ⟨by decide, by decide⟩ dX12_lineRead_73 ⟨Nat.zero_le _, Nat.zero_le _⟩) (fun H locs hw => ?_)
        refine lv_istore_n (lv' := [(1, .int r_9), (0, .ref (a_T 0))]) hx hb dX12_lineRead_76 rfl hl (by decide) rfl (fun ls hl => ?_)
        refine lv_goto (tgt := 221) hx hb dX12_lineRead_77 (by decide) ?_
        exact J221 hf hw (lv_sub hl [1, 0] rfl)
      replace hf := tx_neg hf h_7
      by_cases h_11 : u_T 0 9 = (2 : Int32)
      · replace hf := tx_pos hf h_11
        refine lv_tableIn (off := 53) (tgt := 80) hx hb dX12_lineRead_27 (by rw [h_11]; decide) (by rw [h_11]; decide) (by rw [h_11]; rfl) (by decide) ?_
        refine lv_aload_n hx hb dX12_lineRead_80 rfl (lv_at hl 0 rfl) ?_
        obtain ⟨r_13, u_T_14, h_12, hf⟩ := tx_b2_e hf
        refine tx_ci hw (tx_runV S hE hw (c_X12_readerLine h_12) lk_X12_256 (q0 := 0) rfl rfl rfl hl.1 (rest := []) rfl (Nat.le_of_ble_eq_true rfl) ⟨by decide, by decide⟩ dX12_lineRead_81 ⟨Nat.zero_le _, Nat.zero_le _⟩) (fun H locs hw => ?_)
        refine lv_istore_n (lv' := [(1, .int r_13), (0, .ref (a_T 0))]) hx hb dX12_lineRead_84 rfl hl (by decide) rfl (fun ls hl => ?_)
        refine lv_goto (tgt := 221) hx hb dX12_lineRead_85 (by decide) ?_
        exact J221 hf hw (lv_sub hl [1, 0] rfl)
      replace hf := tx_neg hf h_11
      by_cases h_15 : u_T 0 9 = (3 : Int32)
      · replace hf := tx_pos hf h_15
        refine lv_tableIn (off := 61) (tgt := 88) hx hb dX12_lineRead_27 (by rw [h_15]; decide) (by rw [h_15]; decide) (by rw [h_15]; rfl) (by decide) ?_
        refine lv_aload_n hx hb dX12_lineRead_88 rfl (lv_at hl 0 rfl) ?_
        refine lv_iconst (v := 0) hx hb dX12_lineRead_89 (by decide) ?_
        refine lv_iconst (v := 0) hx hb dX12_lineRead_90 (by decide) ?_
        refine lv_bipush (v := 100) hx hb dX12_lineRead_91 (by decide) ?_
        obtain ⟨r_17, u_T_18, h_16, hf⟩ := tx_b2_e hf
        refine tx_ci hw (tx_runV S hE hw (c_X12_onceLine h_16) lk_X12_259 (q0 := 0) rfl rfl rfl hl.1 (rest := []) rfl (Nat.le_of_ble_eq_true rfl) ⟨by decide, by decide⟩ dX12_lineRead_93 ⟨Nat.zero_le _, Nat.zero_le _⟩) (fun H locs hw => ?_)
        refine lv_istore_n (lv' := [(1, .int r_17), (0, .ref (a_T 0))]) hx hb dX12_lineRead_96 rfl hl (by decide) rfl (fun ls hl => ?_)
        refine lv_goto (tgt := 221) hx hb dX12_lineRead_97 (by decide) ?_
        exact J221 hf hw (lv_sub hl [1, 0] rfl)
      replace hf := tx_neg hf h_15
      by_cases h_19 : u_T 0 9 = (4 : Int32)
      · replace hf := tx_pos hf h_19
        refine lv_tableIn (off := 73) (tgt := 100) hx hb dX12_lineRead_27 (by rw [h_19]; decide) (by rw [h_19]; decide) (by rw [h_19]; rfl) (by decide) ?_
        refine lv_aload_n hx hb dX12_lineRead_100 rfl (lv_at hl 0 rfl) ?_
        refine lv_iconst (v := 1) hx hb dX12_lineRead_101 (by decide) ?_
        refine lv_iconst (v := 1) hx hb dX12_lineRead_102 (by decide) ?_
        refine lv_bipush (v := 99) hx hb dX12_lineRead_103 (by decide) ?_
        obtain ⟨r_21, u_T_22, h_20, hf⟩ := tx_b2_e hf
        refine tx_ci hw (tx_runV S hE hw (c_X12_onceLine h_20) lk_X12_259 (q0 := 0) rfl rfl rfl hl.1 (rest := []) rfl (Nat.le_of_ble_eq_true rfl) ⟨by decide, by decide⟩ dX12_lineRead_105 ⟨Nat.zero_le _, Nat.zero_le _⟩) (fun H locs hw => ?_)
        refine lv_istore_n (lv' := [(1, .int r_21), (0, .ref (a_T 0))]) hx hb dX12_lineRead_108 rfl hl (by decide) rfl (fun ls hl => ?_)
        refine lv_goto (tgt := 221) hx hb dX12_lineRead_109 (by decide) ?_
        exact J221 hf hw (lv_sub hl [1, 0] rfl)
      replace hf := tx_neg hf h_19
      by_cases h_23 : u_T 0 9 = (5 : Int32)
      · replace hf := tx_pos hf h_23
        refine lv_tableIn (off := 85) (tgt := 112) hx hb dX12_lineRead_27 (by rw [h_23]; decide) (by rw [h_23]; decide) (by rw [h_23]; rfl) (by decide) ?_
        refine lv_aload_n hx hb dX12_lineRead_112 rfl (lv_at hl 0 rfl) ?_
        refine lv_iconst (v := 2) hx hb dX12_lineRead_113 (by decide) ?_
        refine lv_iconst (v := 0) hx hb dX12_lineRead_114 (by decide) ?_
        refine lv_ldc (v := 99999) hx hb hown (hts _ kw_1623) dX12_lineRead_115 ?_
        obtain ⟨r_25, u_T_26, h_24, hf⟩ := tx_b2_e hf
        refine tx_ci hw (tx_runV S hE hw (c_X12_onceLine h_24) lk_X12_259 (q0 := 0) rfl rfl rfl hl.1 (rest := []) rfl (Nat.le_of_ble_eq_true rfl) ⟨by decide, by decide⟩ dX12_lineRead_117 ⟨Nat.zero_le _, Nat.zero_le _⟩) (fun H locs hw => ?_)
        refine lv_istore_n (lv' := [(1, .int r_25), (0, .ref (a_T 0))]) hx hb dX12_lineRead_120 rfl hl (by decide) rfl (fun ls hl => ?_)
        refine lv_goto (tgt := 221) hx hb dX12_lineRead_121 (by decide) ?_
        exact J221 hf hw (lv_sub hl [1, 0] rfl)
      replace hf := tx_neg hf h_23
      have eh_3 : (u_T 0 9).toInt ≠ 0 := tx_ne h_3
      have eh_7 : (u_T 0 9).toInt ≠ 1 := tx_ne h_7
      have eh_11 : (u_T 0 9).toInt ≠ 2 := tx_ne h_11
      have eh_15 : (u_T 0 9).toInt ≠ 3 := tx_ne h_15
      have eh_19 : (u_T 0 9).toInt ≠ 4 := tx_ne h_19
      have eh_23 : (u_T 0 9).toInt ≠ 5 := tx_ne h_23
      refine lv_tableOut (tgt := 124) hx hb dX12_lineRead_27 (by omega) (by decide) ?_
      refine lv_aload_n hx hb dX12_lineRead_124 rfl (lv_at hl 0 rfl) ?_
      obtain ⟨u_T_28, h_27, hf⟩ := tx_b1_e hf
      refine tx_cv hw (tx_runV S hE hw (c_X12_token h_27) lk_X12_197 (q0 := 0) rfl rfl rfl hl.1 (rest := []) rfl (Nat.le_of_ble_eq_true rfl) ⟨by decide, by decide⟩ dX12_lineRead_125 ⟨Nat.zero_le _, Nat.zero_le _⟩) (fun H locs hw => ?_)
      refine lv_aload_n hx hb dX12_lineRead_128 rfl (lv_at hl 0 rfl) ?_
      refine gf_X12_163 S hE hw 0 rfl rfl dX12_lineRead_129 ?_
      refine lv_iconst (v := 1) hx hb dX12_lineRead_132 (by decide) ?_
      refine lv_icmp_ne (tgt := 154) hx hb dX12_lineRead_133 (by decide) (fun h_29 => ?_) (fun h_29 => ?_)
      · replace hf := tx_neg hf h_29
        exact J154 hf hw (lv_sub hl [0] rfl)
      · replace hf := tx_pos hf h_29
        refine lv_aload_n hx hb dX12_lineRead_136 rfl (lv_at hl 0 rfl) ?_
        refine gf_X12_174 S hE hw 0 rfl rfl dX12_lineRead_137 ?_
        refine lv_bipush (v := 7) hx hb dX12_lineRead_140 (by decide) ?_
        refine lv_icmp_lt (tgt := 154) hx hb dX12_lineRead_142 (by decide) (fun h_30 => ?_) (fun h_30 => ?_)
        · replace hf := tx_pos hf h_30
          exact J154 hf hw (lv_sub hl [0] rfl)
        · replace hf := tx_neg hf h_30
          refine lv_aload_n hx hb dX12_lineRead_145 rfl (lv_at hl 0 rfl) ?_
          refine gf_X12_174 S hE hw 0 rfl rfl dX12_lineRead_146 ?_
          refine lv_bipush (v := 9) hx hb dX12_lineRead_149 (by decide) ?_
          refine lv_icmp_le (tgt := 160) hx hb dX12_lineRead_151 (by decide) (fun h_31 => ?_) (fun h_31 => ?_)
          · replace hf := tx_pos hf h_31
            refine lv_iconst (v := 3) hx hb dX12_lineRead_160 (by decide) ?_
            refine lv_aload_n hx hb dX12_lineRead_161 rfl (lv_at hl 0 rfl) ?_
            refine gf_X12_174 S hE hw 0 rfl rfl dX12_lineRead_162 ?_
            refine lv_iadd hx hb dX12_lineRead_165 ?_
            refine lv_bipush (v := 7) hx hb dX12_lineRead_166 (by decide) ?_
            refine lv_isub hx hb dX12_lineRead_168 ?_
            refine lv_topi (fun y_32 ey_32 => ?_)
            replace hf := tx_let_e hf ey_32
            refine lv_istore_n (lv' := [(2, .int y_32), (0, .ref (a_T 0))]) hx hb dX12_lineRead_169 rfl hl (by decide) rfl (fun ls hl => ?_)
            refine lv_aload_n hx hb dX12_lineRead_170 rfl (lv_at hl 1 rfl) ?_
            refine gf_X12_57 S hE hw 0 rfl rfl dX12_lineRead_171 ?_
            refine lv_iload_n hx hb dX12_lineRead_174 rfl (lv_at hl 0 rfl) ?_
            obtain ⟨h_33, hf⟩ := tx_ck_e hf
            refine tx_zald S hE hw 15 rfl h_33 dX12_lineRead_175 ?_
            refine lv_if_eq (tgt := 185) hx hb dX12_lineRead_176 (by decide) (fun h_34 => ?_) (fun h_34 => ?_)
            · replace hf := tx_pos hf h_34
              refine lv_aload_n hx hb dX12_lineRead_185 rfl (lv_at hl 1 rfl) ?_
              refine gf_X12_57 S hE hw 0 rfl rfl dX12_lineRead_186 ?_
              refine lv_iload_n hx hb dX12_lineRead_189 rfl (lv_at hl 0 rfl) ?_
              refine lv_iconst (v := 1) hx hb dX12_lineRead_190 (by decide) ?_
              obtain ⟨h_35, hf⟩ := tx_ck_e hf
              obtain ⟨u_T_36, eu_T_36⟩ : ∃ z : S32, z = up2 u_T_28 33 y_32.toNatClampNeg ((1 : Int32) &&& 1) := ⟨_, rfl⟩
              replace hf := tx_let_e hf eu_T_36
              refine tx_zast (ws' := cl_X12 g a_T u_T_36 v_T ++ X) S hE hw 15 rfl h_35 (by rw [eu_T_36]; rfl) dX12_lineRead_191 (fun H locs hw => ?_)
              refine lv_aload_n hx hb dX12_lineRead_192 rfl (lv_at hl 1 rfl) ?_
              obtain ⟨u_T_38, h_37, hf⟩ := tx_b1_e hf
              refine tx_cv hw (tx_runV S hE hw (c_X12_token h_37) lk_X12_197 (q0 := 0) rfl rfl rfl hl.1 (rest := []) rfl (Nat.le_of_ble_eq_true rfl) ⟨by decide, by decide⟩ dX12_lineRead_193 ⟨Nat.zero_le _, Nat.zero_le _⟩) (fun H locs hw => ?_)
              refine lv_aload_n hx hb dX12_lineRead_196 rfl (lv_at hl 1 rfl) ?_
              refine gf_X12_60 S hE hw 0 rfl rfl dX12_lineRead_197 ?_
              refine lv_iload_n hx hb dX12_lineRead_200 rfl (lv_at hl 0 rfl) ?_
              refine lv_aload_n hx hb dX12_lineRead_201 rfl (lv_at hl 1 rfl) ?_
              refine gf_X12_216 S hE hw 0 rfl rfl dX12_lineRead_202 ?_
              obtain ⟨h_39, hf⟩ := tx_ck_e hf
              obtain ⟨u_T_40, eu_T_40⟩ : ∃ z : S32, z = up2 u_T_38 34 y_32.toNatClampNeg (u_T_38 0 19) := ⟨_, rfl⟩
              replace hf := tx_let_e hf eu_T_40
              refine tx_iast (ws' := cl_X12 g a_T u_T_40 v_T ++ X) S hE hw 16 rfl h_39 (by rw [eu_T_40]; rfl) dX12_lineRead_205 (fun H locs hw => ?_)
              refine lv_aload_n hx hb dX12_lineRead_206 rfl (lv_at hl 1 rfl) ?_
              obtain ⟨r_42, u_T_43, h_41, hf⟩ := tx_b2_e hf
              refine tx_ci hw (tx_runV S hE hw (c_X12_sumRead h_41) lk_X12_262 (q0 := 0) rfl rfl rfl hl.1 (rest := []) rfl (Nat.le_of_ble_eq_true rfl) ⟨by decide, by decide⟩ dX12_lineRead_207 ⟨Nat.zero_le _, Nat.zero_le _⟩) (fun H locs hw => ?_)
              refine lv_istore_n (lv' := [(1, .int r_42), (2, .int y_32), (0, .ref (a_T 0))]) hx hb dX12_lineRead_210 rfl hl (by decide) rfl (fun ls hl => ?_)
              refine lv_aload_n hx hb dX12_lineRead_211 rfl (lv_at hl 2 rfl) ?_
              refine gf_X12_63 S hE hw 0 rfl rfl dX12_lineRead_212 ?_
              refine lv_iload_n hx hb dX12_lineRead_215 rfl (lv_at hl 1 rfl) ?_
              refine lv_aload_n hx hb dX12_lineRead_216 rfl (lv_at hl 2 rfl) ?_
              refine gf_X12_216 S hE hw 0 rfl rfl dX12_lineRead_217 ?_
              obtain ⟨h_44, hf⟩ := tx_ck_e hf
              obtain ⟨u_T_45, eu_T_45⟩ : ∃ z : S32, z = up2 u_T_43 35 y_32.toNatClampNeg (u_T_43 0 19) := ⟨_, rfl⟩
              replace hf := tx_let_e hf eu_T_45
              refine tx_iast (ws' := cl_X12 g a_T u_T_45 v_T ++ X) S hE hw 17 rfl h_44 (by rw [eu_T_45]; rfl) dX12_lineRead_220 (fun H locs hw => ?_)
              exact J221 hf hw (lv_sub hl [2, 0] rfl)
            · replace hf := tx_neg hf h_34
              refine lv_aload_n hx hb dX12_lineRead_179 rfl (lv_at hl 1 rfl) ?_
              refine lv_iconst (v := 3) hx hb dX12_lineRead_180 (by decide) ?_
              obtain ⟨r_47, u_T_48, h_46, hf⟩ := tx_b2_e hf
              refine tx_ci hw (tx_runV S hE hw (c_X12_wrong h_46) lk_X12_187 (q0 := 0) rfl rfl rfl hl.1 (rest := []) rfl (Nat.le_of_ble_eq_true rfl) ⟨by decide, by decide⟩ dX12_lineRead_181 ⟨Nat.zero_le _, Nat.zero_le _⟩) (fun H locs hw => ?_)
              obtain ⟨h_49, hf⟩ := tx_bz_e hf
              obtain ⟨e0, e1⟩ := tx_in2 hf
              rw [← e0, ← e1]
              exact tx_zret S hr hlk h_49 hw dX12_lineRead_184
          · replace hf := tx_neg hf h_31
            exact J154 hf hw (lv_sub hl [0] rfl)
    · replace hf := tx_neg hf h_2
      exact J17 hf hw (lv_sub hl [0] rfl)
def f_X12_text_J55 (fu : Nat) (K55 : S32 → S64 → Int32 → Option (Int32 × S32 × S64)) (u_T : S32) (v_T : S64) (w2 : Int32) : Option (Int32 × S32 × S64) := if (u_T 0 8) = (0 : Int32) then (tx_b2 (f_X12_keepText fu u_T v_T) fun (u_T_15 : S32) (v_T_16 : S64) => some (w2, u_T_15, v_T_16)) else (tx_b2 (f_X12_lineRead fu v_T u_T) fun (r_18 : Int32) (u_T_19 : S32) => if r_18 = (0 : Int32) then (some ((-1 : Int32), u_T_19, v_T)) else (tx_let (w2 + (1 : Int32)) fun (y_21 : Int32) => K55 u_T_19 v_T y_21))
def f_X12_text_L55 (fu : Nat) : Nat → S32 → S64 → Int32 → Option (Int32 × S32 × S64)
  | 0 => fun _ _ _ => none
  | n + 1 => f_X12_text_J55 fu (f_X12_text_L55 fu n)
def f_X12_text (fu : Nat) (u_T : S32) (v_T : S64) (x1 : Int32) : Option (Int32 × S32 × S64) := tx_let (up2 u_T 0 2 (0 : Int32)) fun (u_T_1 : S32) => if x1 < (0 : Int32) then (some ((-2 : Int32), u_T_1, v_T)) else (if x1 ≤ (u_T_1 0 1) then (tx_let (up2 u_T_1 0 6 x1) fun (u_T_4 : S32) => tx_let (up2 u_T_4 0 1 (0 : Int32)) fun (u_T_5 : S32) => tx_let (up2 u_T_5 0 4 (0 : Int32)) fun (u_T_6 : S32) => tx_let (up2 u_T_6 0 5 (-1 : Int32)) fun (u_T_7 : S32) => tx_let (up2 u_T_7 0 7 (0 : Int32)) fun (u_T_8 : S32) => tx_b1 (f_X12_plain fu v_T u_T_8) fun (u_T_10 : S32) => tx_b1 (f_X12_token fu v_T u_T_10) fun (u_T_12 : S32) => f_X12_text_L55 fu fu u_T_12 v_T (0 : Int32)) else (some ((-2 : Int32), u_T_1, v_T)))
set_option maxHeartbeats 4000000 in
set_option maxRecDepth 100000 in
theorem c_X12_text {l : Launch} {g : GG} {A : Nat → Prop} {X : va_W} {fu : Nat} {a_T : Nat → Nat} {u_T : S32} {v_T : S64} {x1 : Int32} {r : Int32} {zu_T : S32} {zv_T : S64} (hf : f_X12_text fu  u_T v_T x1 = some (r, zu_T, zv_T)) : MI l yX12_text cX12_text 3 (some .int) 5 g A (cl_X12 g a_T u_T v_T ++ X) [.ref (a_T 0), .int x1] r (cl_X12 g a_T zu_T zv_T ++ X) := by
  refine tx_start (av := [.ref (a_T 0), .int x1]) (by decide) (Nat.le_of_ble_eq_true rfl) ?_
  intro p e s m below meth c ls S hr hlk hE hw hl
  have S : CallFix p m c cX12_text 3 s (List.toArray [.ref (a_T 0), .int x1]) (Cond.code yX12_text cX12_text 3 (some .int) :: allW) RX12 := S
  have hx := S.1
  have hb := S.2.1
  have hown := S.2.2.2.1
  have hts : ∀ w ∈ allW, w.before (List.toArray [.ref (a_T 0), .int x1]) s = true := fun w h => S.2.2.2.2 w (List.mem_cons_of_mem _ h)
  have hl : lv_has ls 3 [(0, .ref (a_T 0)), (1, .int x1)] := hl
  have J55 : ∀ {K55 : S32 → S64 → Int32 → Option (Int32 × S32 × S64)} (hK55 : ∀ {u_T : S32} {v_T : S64} {w2 : Int32} {H : Heap} {locs : List Loc} {ls : Array Slot}, K55 u_T v_T w2 = some (r, zu_T, zv_T) → WD g A s.heap (cl_X12 g a_T u_T v_T ++ X) H locs → lv_has ls 3 [(0, .ref (a_T 0)), (2, .int w2)] → W p l e (rmH 5) s m (List.toArray [.ref (a_T 0), .int x1]) below meth c H locs 0 0 (MQ below (va_Qi (fun r2 (_ : Unit) => r2 = r) (fun _ t => POST g A (cl_X12 g a_T zu_T zv_T ++ X) t) A) (List.toArray [.ref (a_T 0), .int x1]) s 0 0 A) (F0 m 55 ls [])), ∀ {u_T : S32} {v_T : S64} {w2 : Int32} {H : Heap} {locs : List Loc} {ls : Array Slot}, f_X12_text_J55 fu K55 u_T v_T w2 = some (r, zu_T, zv_T) → WD g A s.heap (cl_X12 g a_T u_T v_T ++ X) H locs → lv_has ls 3 [(0, .ref (a_T 0)), (2, .int w2)] → W p l e (rmH 5) s m (List.toArray [.ref (a_T 0), .int x1]) below meth c H locs 0 0 (MQ below (va_Qi (fun r2 (_ : Unit) => r2 = r) (fun _ t => POST g A (cl_X12 g a_T zu_T zv_T ++ X) t) A) (List.toArray [.ref (a_T 0), .int x1]) s 0 0 A) (F0 m 55 ls []) := by
    intro K55 hK55 u_T v_T w2 H locs ls hf hw hl
    unfold f_X12_text_J55 at hf
    refine lv_aload_n hx hb dX12_text_55 rfl (lv_at hl 0 rfl) ?_
    refine gf_X12_163 S hE hw 0 rfl rfl dX12_text_56 ?_
    refine lv_if_eq (tgt := 77) hx hb dX12_text_59 (by decide) (fun h_13 => ?_) (fun h_13 => ?_)
    · replace hf := tx_pos hf h_13
      refine lv_aload_n hx hb dX12_text_77 rfl (lv_at hl 0 rfl) ?_
      obtain ⟨u_T_15, v_T_16, h_14, hf⟩ := tx_b2_e hf
      refine tx_cv hw (tx_runV S hE hw (c_X12_keepText h_14) lk_X12_142 (q0 := 0) rfl rfl rfl hl.1 (rest := []) rfl (Nat.le_of_ble_eq_true rfl) ⟨by decide, by decide⟩ dX12_text_78 ⟨Nat.zero_le _, Nat.zero_le _⟩) (fun H locs hw => ?_)
      refine lv_iload_n hx hb dX12_text_81 rfl (lv_at hl 1 rfl) ?_
      obtain ⟨e0, e1, e2⟩ := tx_in3 hf
      rw [← e0, ← e1, ← e2]
      exact tx_iret S hr hlk hw dX12_text_82
    · replace hf := tx_neg hf h_13
      refine lv_aload_n hx hb dX12_text_62 rfl (lv_at hl 0 rfl) ?_
      obtain ⟨r_18, u_T_19, h_17, hf⟩ := tx_b2_e hf
      refine tx_ci hw (tx_runV S hE hw (c_X12_lineRead h_17) lk_X12_265 (q0 := 0) rfl rfl rfl hl.1 (rest := []) rfl (Nat.le_of_ble_eq_true rfl) ⟨by decide, by decide⟩ dX12_text_63 ⟨Nat.zero_le _, Nat.zero_le _⟩) (fun H locs hw => ?_)
      refine lv_if_ne (tgt := 71) hx hb dX12_text_66 (by decide) (fun h_20 => ?_) (fun h_20 => ?_)
      · replace hf := tx_neg hf h_20
        obtain ⟨y_21, ey_21⟩ : ∃ y : Int32, y = w2 + (1 : Int32) := ⟨_, rfl⟩
        replace hf := tx_let_e hf ey_21
        refine lv_iinc (v := y_21) (lv' := [(2, .int y_21), (0, .ref (a_T 0))]) hx hb dX12_text_71 hl (k := 1) rfl (by rw [ey_21]; rfl) (by decide) rfl (fun ls hl => ?_)
        refine lv_goto (tgt := 55) hx hb dX12_text_74 (by decide) ?_
        exact hK55 hf hw (lv_sub hl [1, 0] rfl)
      · replace hf := tx_pos hf h_20
        refine lv_iconst (v := -1) hx hb dX12_text_69 (by decide) ?_
        obtain ⟨e0, e1, e2⟩ := tx_in3 hf
        rw [← e0, ← e1, ← e2]
        exact tx_iret S hr hlk hw dX12_text_70
  have L55 : ∀ (n : Nat), ∀ {u_T : S32} {v_T : S64} {w2 : Int32} {H : Heap} {locs : List Loc} {ls : Array Slot}, f_X12_text_L55 fu n u_T v_T w2 = some (r, zu_T, zv_T) → WD g A s.heap (cl_X12 g a_T u_T v_T ++ X) H locs → lv_has ls 3 [(0, .ref (a_T 0)), (2, .int w2)] → W p l e (rmH 5) s m (List.toArray [.ref (a_T 0), .int x1]) below meth c H locs 0 0 (MQ below (va_Qi (fun r2 (_ : Unit) => r2 = r) (fun _ t => POST g A (cl_X12 g a_T zu_T zv_T ++ X) t) A) (List.toArray [.ref (a_T 0), .int x1]) s 0 0 A) (F0 m 55 ls []) := by
    intro  n
    induction n with
    | zero => intro u_T v_T w2 H locs ls hf; exact absurd hf (by intro q; cases q)
    | succ n ih => exact fun hf hw hl => J55 ih hf hw hl
  unfold f_X12_text at hf
  refine lv_aload_n hx hb dX12_text_0 rfl (lv_at hl 0 rfl) ?_
  refine lv_iconst (v := 0) hx hb dX12_text_1 (by decide) ?_
  obtain ⟨u_T_1, eu_T_1⟩ : ∃ z : S32, z = up2 u_T 0 2 (0 : Int32) := ⟨_, rfl⟩
  replace hf := tx_let_e hf eu_T_1
  refine pf_X12_145 (ws' := cl_X12 g a_T u_T_1 v_T ++ X) S hE hw rfl rfl 0 rfl (Nat.le_of_ble_eq_true rfl) (by rw [eu_T_1]; rfl) dX12_text_2 (fun H locs hw => ?_)
  refine lv_iload_n hx hb dX12_text_5 rfl (lv_at hl 1 rfl) ?_
  refine lv_if_lt (tgt := 17) hx hb dX12_text_6 (by decide) (fun h_2 => ?_) (fun h_2 => ?_)
  · replace hf := tx_pos hf h_2
    refine lv_bipush (v := -2) hx hb dX12_text_17 (by decide) ?_
    obtain ⟨e0, e1, e2⟩ := tx_in3 hf
    rw [← e0, ← e1, ← e2]
    exact tx_iret S hr hlk hw dX12_text_19
  · replace hf := tx_neg hf h_2
    refine lv_iload_n hx hb dX12_text_9 rfl (lv_at hl 1 rfl) ?_
    refine lv_aload_n hx hb dX12_text_10 rfl (lv_at hl 0 rfl) ?_
    refine gf_X12_148 S hE hw 0 rfl rfl dX12_text_11 ?_
    refine lv_icmp_le (tgt := 20) hx hb dX12_text_14 (by decide) (fun h_3 => ?_) (fun h_3 => ?_)
    · replace hf := tx_pos hf h_3
      refine lv_aload_n hx hb dX12_text_20 rfl (lv_at hl 0 rfl) ?_
      refine lv_iload_n hx hb dX12_text_21 rfl (lv_at hl 1 rfl) ?_
      obtain ⟨u_T_4, eu_T_4⟩ : ∃ z : S32, z = up2 u_T_1 0 6 x1 := ⟨_, rfl⟩
      replace hf := tx_let_e hf eu_T_4
      refine pf_X12_157 (ws' := cl_X12 g a_T u_T_4 v_T ++ X) S hE hw rfl rfl 0 rfl (Nat.le_of_ble_eq_true rfl) (by rw [eu_T_4]; rfl) dX12_text_22 (fun H locs hw => ?_)
      refine lv_aload_n hx hb dX12_text_25 rfl (lv_at hl 0 rfl) ?_
      refine lv_iconst (v := 0) hx hb dX12_text_26 (by decide) ?_
      obtain ⟨u_T_5, eu_T_5⟩ : ∃ z : S32, z = up2 u_T_4 0 1 (0 : Int32) := ⟨_, rfl⟩
      replace hf := tx_let_e hf eu_T_5
      refine pf_X12_148 (ws' := cl_X12 g a_T u_T_5 v_T ++ X) S hE hw rfl rfl 0 rfl (Nat.le_of_ble_eq_true rfl) (by rw [eu_T_5]; rfl) dX12_text_27 (fun H locs hw => ?_)
      refine lv_aload_n hx hb dX12_text_30 rfl (lv_at hl 0 rfl) ?_
      refine lv_iconst (v := 0) hx hb dX12_text_31 (by decide) ?_
      obtain ⟨u_T_6, eu_T_6⟩ : ∃ z : S32, z = up2 u_T_5 0 4 (0 : Int32) := ⟨_, rfl⟩
      replace hf := tx_let_e hf eu_T_6
      refine pf_X12_151 (ws' := cl_X12 g a_T u_T_6 v_T ++ X) S hE hw rfl rfl 0 rfl (Nat.le_of_ble_eq_true rfl) (by rw [eu_T_6]; rfl) dX12_text_32 (fun H locs hw => ?_)
      refine lv_aload_n hx hb dX12_text_35 rfl (lv_at hl 0 rfl) ?_
      refine lv_iconst (v := -1) hx hb dX12_text_36 (by decide) ?_
      obtain ⟨u_T_7, eu_T_7⟩ : ∃ z : S32, z = up2 u_T_6 0 5 (-1 : Int32) := ⟨_, rfl⟩
      replace hf := tx_let_e hf eu_T_7
      refine pf_X12_16 (ws' := cl_X12 g a_T u_T_7 v_T ++ X) S hE hw rfl rfl 0 rfl (Nat.le_of_ble_eq_true rfl) (by rw [eu_T_7]; rfl) dX12_text_37 (fun H locs hw => ?_)
      refine lv_aload_n hx hb dX12_text_40 rfl (lv_at hl 0 rfl) ?_
      refine lv_iconst (v := 0) hx hb dX12_text_41 (by decide) ?_
      obtain ⟨u_T_8, eu_T_8⟩ : ∃ z : S32, z = up2 u_T_7 0 7 (0 : Int32) := ⟨_, rfl⟩
      replace hf := tx_let_e hf eu_T_8
      refine pf_X12_160 (ws' := cl_X12 g a_T u_T_8 v_T ++ X) S hE hw rfl rfl 0 rfl (Nat.le_of_ble_eq_true rfl) (by rw [eu_T_8]; rfl) dX12_text_42 (fun H locs hw => ?_)
      refine lv_aload_n hx hb dX12_text_45 rfl (lv_at hl 0 rfl) ?_
      obtain ⟨u_T_10, h_9, hf⟩ := tx_b1_e hf
      refine tx_cv hw (tx_runV S hE hw (c_X12_plain h_9) lk_X12_139 (q0 := 0) rfl rfl rfl hl.1 (rest := []) rfl (Nat.le_of_ble_eq_true rfl) ⟨by decide, by decide⟩ dX12_text_46 ⟨Nat.zero_le _, Nat.zero_le _⟩) (fun H locs hw => ?_)
      refine lv_aload_n hx hb dX12_text_49 rfl (lv_at hl 0 rfl) ?_
      obtain ⟨u_T_12, h_11, hf⟩ := tx_b1_e hf
      refine tx_cv hw (tx_runV S hE hw (c_X12_token h_11) lk_X12_197 (q0 := 0) rfl rfl rfl hl.1 (rest := []) rfl (Nat.le_of_ble_eq_true rfl) ⟨by decide, by decide⟩ dX12_text_50 ⟨Nat.zero_le _, Nat.zero_le _⟩) (fun H locs hw => ?_)
      refine lv_iconst (v := 0) hx hb dX12_text_53 (by decide) ?_
      refine lv_istore_n (lv' := [(2, .int (0 : Int32)), (0, .ref (a_T 0)), (1, .int x1)]) hx hb dX12_text_54 rfl hl (by decide) rfl (fun ls hl => ?_)
      exact L55 fu hf hw (lv_sub hl [1, 0] rfl)
    · replace hf := tx_neg hf h_3
      refine lv_bipush (v := -2) hx hb dX12_text_17 (by decide) ?_
      obtain ⟨e0, e1, e2⟩ := tx_in3 hf
      rw [← e0, ← e1, ← e2]
      exact tx_iret S hr hlk hw dX12_text_19
def f_X12_fault (fu : Nat) (v_T : S64) (u_T : S32) (x1 : Int32) : Option (Int32 × S32) := tx_let (up2 u_T 0 2 (0 : Int32)) fun (u_T_1 : S32) => if x1 = (0 : Int32) then (some (u_T_1 0 4, u_T_1)) else (if x1 = (1 : Int32) then (some (u_T_1 0 5, u_T_1)) else (some ((-1 : Int32), u_T_1)))
set_option maxHeartbeats 4000000 in
set_option maxRecDepth 100000 in
theorem c_X12_fault {l : Launch} {g : GG} {A : Nat → Prop} {X : va_W} {fu : Nat} {a_T : Nat → Nat} {u_T : S32} {v_T : S64} {x1 : Int32} {r : Int32} {zu_T : S32} (hf : f_X12_fault fu v_T u_T x1 = some (r, zu_T)) : MI l yX12_fault cX12_fault 2 (some .int) 0 g A (cl_X12 g a_T u_T v_T ++ X) [.ref (a_T 0), .int x1] r (cl_X12 g a_T zu_T v_T ++ X) := by
  refine tx_start (av := [.ref (a_T 0), .int x1]) (by decide) (Nat.le_of_ble_eq_true rfl) ?_
  intro p e s m below meth c ls S hr hlk hE hw hl
  have S : CallFix p m c cX12_fault 2 s (List.toArray [.ref (a_T 0), .int x1]) (Cond.code yX12_fault cX12_fault 2 (some .int) :: allW) RX12 := S
  have hx := S.1
  have hb := S.2.1
  have hown := S.2.2.2.1
  have hts : ∀ w ∈ allW, w.before (List.toArray [.ref (a_T 0), .int x1]) s = true := fun w h => S.2.2.2.2 w (List.mem_cons_of_mem _ h)
  have hl : lv_has ls 2 [(0, .ref (a_T 0)), (1, .int x1)] := hl
  unfold f_X12_fault at hf
  refine lv_aload_n hx hb dX12_fault_0 rfl (lv_at hl 0 rfl) ?_
  refine lv_iconst (v := 0) hx hb dX12_fault_1 (by decide) ?_
  obtain ⟨u_T_1, eu_T_1⟩ : ∃ z : S32, z = up2 u_T 0 2 (0 : Int32) := ⟨_, rfl⟩
  replace hf := tx_let_e hf eu_T_1
  refine pf_X12_145 (ws' := cl_X12 g a_T u_T_1 v_T ++ X) S hE hw rfl rfl 0 rfl (Nat.le_of_ble_eq_true rfl) (by rw [eu_T_1]; rfl) dX12_fault_2 (fun H locs hw => ?_)
  refine lv_iload_n hx hb dX12_fault_5 rfl (lv_at hl 1 rfl) ?_
  refine lv_if_ne (tgt := 16) hx hb dX12_fault_6 (by decide) (fun h_2 => ?_) (fun h_2 => ?_)
  · replace hf := tx_neg hf h_2
    refine lv_iload_n hx hb dX12_fault_16 rfl (lv_at hl 1 rfl) ?_
    refine lv_iconst (v := 1) hx hb dX12_fault_17 (by decide) ?_
    refine lv_icmp_ne (tgt := 28) hx hb dX12_fault_18 (by decide) (fun h_3 => ?_) (fun h_3 => ?_)
    · replace hf := tx_neg hf h_3
      refine lv_iconst (v := -1) hx hb dX12_fault_28 (by decide) ?_
      obtain ⟨e0, e1⟩ := tx_in2 hf
      rw [← e0, ← e1]
      exact tx_iret S hr hlk hw dX12_fault_29
    · replace hf := tx_pos hf h_3
      refine lv_aload_n hx hb dX12_fault_21 rfl (lv_at hl 0 rfl) ?_
      refine gf_X12_16 S hE hw 0 rfl rfl dX12_fault_22 ?_
      refine lv_goto (tgt := 29) hx hb dX12_fault_25 (by decide) ?_
      obtain ⟨e0, e1⟩ := tx_in2 hf
      rw [← e0, ← e1]
      exact tx_iret S hr hlk hw dX12_fault_29
  · replace hf := tx_pos hf h_2
    refine lv_aload_n hx hb dX12_fault_9 rfl (lv_at hl 0 rfl) ?_
    refine gf_X12_151 S hE hw 0 rfl rfl dX12_fault_10 ?_
    refine lv_goto (tgt := 29) hx hb dX12_fault_13 (by decide) ?_
    obtain ⟨e0, e1⟩ := tx_in2 hf
    rw [← e0, ← e1]
    exact tx_iret S hr hlk hw dX12_fault_29
def f_X12_named (fu : Nat) (v_T : S64) (u_T : S32) (x1 : Int32) (x2 : Int32) : Option (Int32 × S32) := tx_let (up2 u_T 0 2 (0 : Int32)) fun (u_T_1 : S32) => if x1 = (0 : Int32) then (tx_b1 (f_X12_seek_oX12r23 fu u_T_1 v_T (0 : Int32) (u_T_1 0 12) x2) fun (r_7 : Int32) => some (r_7, u_T_1)) else (if x1 = (1 : Int32) then (tx_b1 (f_X12_seek_oX12r30 fu u_T_1 v_T (0 : Int32) (u_T_1 0 14) x2) fun (r_5 : Int32) => some (r_5, u_T_1)) else (some ((-1 : Int32), u_T_1)))
set_option maxHeartbeats 4000000 in
set_option maxRecDepth 100000 in
theorem c_X12_named {l : Launch} {g : GG} {A : Nat → Prop} {X : va_W} {fu : Nat} {a_T : Nat → Nat} {u_T : S32} {v_T : S64} {x1 : Int32} {x2 : Int32} {r : Int32} {zu_T : S32} (hf : f_X12_named fu v_T u_T x1 x2 = some (r, zu_T)) : MI l yX12_named cX12_named 3 (some .int) 1 g A (cl_X12 g a_T u_T v_T ++ X) [.ref (a_T 0), .int x1, .int x2] r (cl_X12 g a_T zu_T v_T ++ X) := by
  refine tx_start (av := [.ref (a_T 0), .int x1, .int x2]) (by decide) (Nat.le_of_ble_eq_true rfl) ?_
  intro p e s m below meth c ls S hr hlk hE hw hl
  have S : CallFix p m c cX12_named 3 s (List.toArray [.ref (a_T 0), .int x1, .int x2]) (Cond.code yX12_named cX12_named 3 (some .int) :: allW) RX12 := S
  have hx := S.1
  have hb := S.2.1
  have hown := S.2.2.2.1
  have hts : ∀ w ∈ allW, w.before (List.toArray [.ref (a_T 0), .int x1, .int x2]) s = true := fun w h => S.2.2.2.2 w (List.mem_cons_of_mem _ h)
  have hl : lv_has ls 3 [(0, .ref (a_T 0)), (1, .int x1), (2, .int x2)] := hl
  unfold f_X12_named at hf
  refine lv_aload_n hx hb dX12_named_0 rfl (lv_at hl 0 rfl) ?_
  refine lv_iconst (v := 0) hx hb dX12_named_1 (by decide) ?_
  obtain ⟨u_T_1, eu_T_1⟩ : ∃ z : S32, z = up2 u_T 0 2 (0 : Int32) := ⟨_, rfl⟩
  replace hf := tx_let_e hf eu_T_1
  refine pf_X12_145 (ws' := cl_X12 g a_T u_T_1 v_T ++ X) S hE hw rfl rfl 0 rfl (Nat.le_of_ble_eq_true rfl) (by rw [eu_T_1]; rfl) dX12_named_2 (fun H locs hw => ?_)
  refine lv_iload_n hx hb dX12_named_5 rfl (lv_at hl 1 rfl) ?_
  refine lv_if_ne (tgt := 25) hx hb dX12_named_6 (by decide) (fun h_2 => ?_) (fun h_2 => ?_)
  · replace hf := tx_neg hf h_2
    refine lv_iload_n hx hb dX12_named_25 rfl (lv_at hl 1 rfl) ?_
    refine lv_iconst (v := 1) hx hb dX12_named_26 (by decide) ?_
    refine lv_icmp_ne (tgt := 46) hx hb dX12_named_27 (by decide) (fun h_3 => ?_) (fun h_3 => ?_)
    · replace hf := tx_neg hf h_3
      refine lv_iconst (v := -1) hx hb dX12_named_46 (by decide) ?_
      obtain ⟨e0, e1⟩ := tx_in2 hf
      rw [← e0, ← e1]
      exact tx_iret S hr hlk hw dX12_named_47
    · replace hf := tx_pos hf h_3
      refine lv_aload_n hx hb dX12_named_30 rfl (lv_at hl 0 rfl) ?_
      refine gf_X12_48 S hE hw 0 rfl rfl dX12_named_31 ?_
      refine lv_iconst (v := 0) hx hb dX12_named_34 (by decide) ?_
      refine lv_aload_n hx hb dX12_named_35 rfl (lv_at hl 0 rfl) ?_
      refine gf_X12_228 S hE hw 0 rfl rfl dX12_named_36 ?_
      refine lv_iload_n hx hb dX12_named_39 rfl (lv_at hl 2 rfl) ?_
      obtain ⟨r_5, h_4, hf⟩ := tx_b1_e hf
      refine tx_ci hw (tx_runS S hE hw (c_X12_seek_oX12r30 h_4) lk_X12_241 rfl hl.1 (rest := []) rfl (Nat.le_of_ble_eq_true rfl) ⟨by decide, by decide⟩ dX12_named_40 ⟨Nat.zero_le _, Nat.zero_le _⟩) (fun H locs hw => ?_)
      refine lv_goto (tgt := 47) hx hb dX12_named_43 (by decide) ?_
      obtain ⟨e0, e1⟩ := tx_in2 hf
      rw [← e0, ← e1]
      exact tx_iret S hr hlk hw dX12_named_47
  · replace hf := tx_pos hf h_2
    refine lv_aload_n hx hb dX12_named_9 rfl (lv_at hl 0 rfl) ?_
    refine gf_X12_27 S hE hw 0 rfl rfl dX12_named_10 ?_
    refine lv_iconst (v := 0) hx hb dX12_named_13 (by decide) ?_
    refine lv_aload_n hx hb dX12_named_14 rfl (lv_at hl 0 rfl) ?_
    refine gf_X12_222 S hE hw 0 rfl rfl dX12_named_15 ?_
    refine lv_iload_n hx hb dX12_named_18 rfl (lv_at hl 2 rfl) ?_
    obtain ⟨r_7, h_6, hf⟩ := tx_b1_e hf
    refine tx_ci hw (tx_runS S hE hw (c_X12_seek_oX12r23 h_6) lk_X12_241 rfl hl.1 (rest := []) rfl (Nat.le_of_ble_eq_true rfl) ⟨by decide, by decide⟩ dX12_named_19 ⟨Nat.zero_le _, Nat.zero_le _⟩) (fun H locs hw => ?_)
    refine lv_goto (tgt := 47) hx hb dX12_named_22 (by decide) ?_
    obtain ⟨e0, e1⟩ := tx_in2 hf
    rw [← e0, ← e1]
    exact tx_iret S hr hlk hw dX12_named_47
def f_X12_bounded_J29 (fu : Nat) (v_T : S64) (u_T : S32) (w1 : Int64) (t1 : Int32) : Option (Int64 × S32) := tx_bz t1 <| tx_let (up2 u_T 0 48 t1) fun (u_T_5 : S32) => if (u_T_5 0 48) = (0 : Int32) then (some (w1, u_T_5)) else (some ((0 : Int64), u_T_5))
def f_X12_bounded_J24 (fu : Nat) (v_T : S64) (u_T : S32) (w1 : Int64) : Option (Int64 × S32) := f_X12_bounded_J29 fu v_T u_T w1 (1 : Int32)
def f_X12_bounded (fu : Nat) (v_T : S64) (u_T : S32) (x1 : Int64) : Option (Int64 × S32) := if (u_T 0 48) = (0 : Int32) then (if (0 : Int32) < (lg_cmp x1 (1000000000000 : Int64)) then (f_X12_bounded_J24 fu v_T u_T x1) else (if (0 : Int32) ≤ (lg_cmp x1 (-1000000000000 : Int64)) then (f_X12_bounded_J29 fu v_T u_T x1 (0 : Int32)) else (f_X12_bounded_J24 fu v_T u_T x1))) else (f_X12_bounded_J24 fu v_T u_T x1)
set_option maxHeartbeats 4000000 in
set_option maxRecDepth 100000 in
theorem c_X12_bounded {l : Launch} {g : GG} {A : Nat → Prop} {X : va_W} {fu : Nat} {a_T : Nat → Nat} {u_T : S32} {v_T : S64} {x1 : Int64} {r : Int64} {zu_T : S32} (hf : f_X12_bounded fu v_T u_T x1 = some (r, zu_T)) : ML l yX12_bounded cX12_bounded 3 (some .long) 0 g A (cl_X12 g a_T u_T v_T ++ X) [.ref (a_T 0), .long x1] r (cl_X12 g a_T zu_T v_T ++ X) := by
  refine tx_start (av := [.ref (a_T 0), .long x1]) (by decide) (Nat.le_of_ble_eq_true rfl) ?_
  intro p e s m below meth c ls S hr hlk hE hw hl
  have S : CallFix p m c cX12_bounded 3 s (List.toArray [.ref (a_T 0), .long x1]) (Cond.code yX12_bounded cX12_bounded 3 (some .long) :: allW) RX12 := S
  have hx := S.1
  have hb := S.2.1
  have hown := S.2.2.2.1
  have hts : ∀ w ∈ allW, w.before (List.toArray [.ref (a_T 0), .long x1]) s = true := fun w h => S.2.2.2.2 w (List.mem_cons_of_mem _ h)
  have hl : lv_has ls 3 [(0, .ref (a_T 0)), (1, .long x1)] := hl
  have J29 : ∀ {u_T : S32} {w1 : Int64} {t1 : Int32} {H : Heap} {locs : List Loc} {ls : Array Slot}, f_X12_bounded_J29 fu v_T u_T w1 t1 = some (r, zu_T) → WD g A s.heap (cl_X12 g a_T u_T v_T ++ X) H locs → lv_has ls 3 [(0, .ref (a_T 0)), (1, .long w1)] → W p l e (rmH 0) s m (List.toArray [.ref (a_T 0), .long x1]) below meth c H locs 0 0 (MQ below (va_Ql (fun r2 (_ : Unit) => r2 = r) (fun _ t => POST g A (cl_X12 g a_T zu_T v_T ++ X) t) A) (List.toArray [.ref (a_T 0), .long x1]) s 0 0 A) (F0 m 29 ls [.int t1, .ref (a_T 0)]) := by
    intro u_T w1 t1 H locs ls hf hw hl
    unfold f_X12_bounded_J29 at hf
    obtain ⟨h_4, hf⟩ := tx_bz_e hf
    obtain ⟨u_T_5, eu_T_5⟩ : ∃ z : S32, z = up2 u_T 0 48 t1 := ⟨_, rfl⟩
    replace hf := tx_let_e hf eu_T_5
    refine pf_X12_318 (ws' := cl_X12 g a_T u_T_5 v_T ++ X) S hE hw (tx_bz_n h_4) (tx_bz_f h_4) 0 rfl (Nat.le_of_ble_eq_true rfl) (by rw [eu_T_5]; rfl) dX12_bounded_29 (fun H locs hw => ?_)
    refine lv_aload_n hx hb dX12_bounded_32 rfl (lv_at hl 0 rfl) ?_
    refine gf_X12_318 S hE hw 0 rfl rfl dX12_bounded_33 ?_
    refine lv_if_eq (tgt := 43) hx hb dX12_bounded_36 (by decide) (fun h_6 => ?_) (fun h_6 => ?_)
    · replace hf := tx_pos hf h_6
      refine lv_lload_n hx hb dX12_bounded_43 rfl (lv_at hl 1 rfl) ?_
      obtain ⟨e0, e1⟩ := tx_in2 hf
      rw [← e0, ← e1]
      exact tx_lret S hr hlk hw dX12_bounded_44
    · replace hf := tx_neg hf h_6
      refine lv_lconst (v := 0) hx hb dX12_bounded_39 (by decide) ?_
      refine lv_goto (tgt := 44) hx hb dX12_bounded_40 (by decide) ?_
      obtain ⟨e0, e1⟩ := tx_in2 hf
      rw [← e0, ← e1]
      exact tx_lret S hr hlk hw dX12_bounded_44
  have J24 : ∀ {u_T : S32} {w1 : Int64} {H : Heap} {locs : List Loc} {ls : Array Slot}, f_X12_bounded_J24 fu v_T u_T w1 = some (r, zu_T) → WD g A s.heap (cl_X12 g a_T u_T v_T ++ X) H locs → lv_has ls 3 [(0, .ref (a_T 0)), (1, .long w1)] → W p l e (rmH 0) s m (List.toArray [.ref (a_T 0), .long x1]) below meth c H locs 0 0 (MQ below (va_Ql (fun r2 (_ : Unit) => r2 = r) (fun _ t => POST g A (cl_X12 g a_T zu_T v_T ++ X) t) A) (List.toArray [.ref (a_T 0), .long x1]) s 0 0 A) (F0 m 24 ls [.ref (a_T 0)]) := by
    intro u_T w1 H locs ls hf hw hl
    unfold f_X12_bounded_J24 at hf
    refine lv_iconst (v := 1) hx hb dX12_bounded_24 (by decide) ?_
    refine lv_goto (tgt := 29) hx hb dX12_bounded_25 (by decide) ?_
    exact J29 hf hw (lv_sub hl [0, 1] rfl)
  unfold f_X12_bounded at hf
  refine lv_aload_n hx hb dX12_bounded_0 rfl (lv_at hl 0 rfl) ?_
  refine lv_aload_n hx hb dX12_bounded_1 rfl (lv_at hl 0 rfl) ?_
  refine gf_X12_318 S hE hw 0 rfl rfl dX12_bounded_2 ?_
  refine lv_if_ne (tgt := 24) hx hb dX12_bounded_5 (by decide) (fun h_1 => ?_) (fun h_1 => ?_)
  · replace hf := tx_neg hf h_1
    exact J24 hf hw (lv_sub hl [0, 1] rfl)
  · replace hf := tx_pos hf h_1
    refine lv_lload_n hx hb dX12_bounded_8 rfl (lv_at hl 1 rfl) ?_
    refine lv_ldc2 (v := 1000000000000) hx hb hown (hts _ kw_1786) dX12_bounded_9 ?_
    refine W.lcmp hx hb dX12_bounded_12 ?_
    refine lv_if_gt (tgt := 24) hx hb dX12_bounded_13 (by decide) (fun h_2 => ?_) (fun h_2 => ?_)
    · replace hf := tx_pos hf h_2
      exact J24 hf hw (lv_sub hl [0, 1] rfl)
    · replace hf := tx_neg hf h_2
      refine lv_lload_n hx hb dX12_bounded_16 rfl (lv_at hl 1 rfl) ?_
      refine lv_ldc2 (v := -1000000000000) hx hb hown (hts _ kw_1787) dX12_bounded_17 ?_
      refine W.lcmp hx hb dX12_bounded_20 ?_
      refine lv_if_ge (tgt := 28) hx hb dX12_bounded_21 (by decide) (fun h_3 => ?_) (fun h_3 => ?_)
      · replace hf := tx_pos hf h_3
        refine lv_iconst (v := 0) hx hb dX12_bounded_28 (by decide) ?_
        exact J29 hf hw (lv_sub hl [0, 1] rfl)
      · replace hf := tx_neg hf h_3
        exact J24 hf hw (lv_sub hl [0, 1] rfl)
def f_X12_compares (fu : Nat) (x0 : Int32) (x1 : Int64) (x3 : Int64) : Option (Int32) := if x0 = (5 : Int32) then (if (0 : Int32) ≤ (lg_cmp x1 x3) then (some (0 : Int32)) else (some (1 : Int32))) else if x0 = (6 : Int32) then (if (0 : Int32) < (lg_cmp x1 x3) then (some (0 : Int32)) else (some (1 : Int32))) else if x0 = (7 : Int32) then (if (lg_cmp x1 x3) = (0 : Int32) then (some (1 : Int32)) else (some (0 : Int32))) else if x0 = (8 : Int32) then (if (lg_cmp x1 x3) = (0 : Int32) then (some (0 : Int32)) else (some (1 : Int32))) else if x0 = (9 : Int32) then (if (lg_cmp x1 x3) < (0 : Int32) then (some (0 : Int32)) else (some (1 : Int32))) else (if (lg_cmp x1 x3) ≤ (0 : Int32) then (some (0 : Int32)) else (some (1 : Int32)))
set_option maxHeartbeats 4000000 in
set_option maxRecDepth 100000 in
theorem c_X12_compares {l : Launch} {g : GG} {A : Nat → Prop} {X : va_W} {fu : Nat} {x0 : Int32} {x1 : Int64} {x3 : Int64} {r : Int32} (hf : f_X12_compares fu  x0 x1 x3 = some r) : MI l yX12_compares cX12_compares 5 (some .boolean) 0 g A (X) [.int x0, .long x1, .long x3] r (X) := by
  refine tx_start (av := [.int x0, .long x1, .long x3]) (by decide) (Nat.le_of_ble_eq_true rfl) ?_
  intro p e s m below meth c ls S hr hlk hE hw hl
  have S : CallFix p m c cX12_compares 5 s (List.toArray [.int x0, .long x1, .long x3]) (Cond.code yX12_compares cX12_compares 5 (some .boolean) :: allW) RX12 := S
  have hx := S.1
  have hb := S.2.1
  have hown := S.2.2.2.1
  have hts : ∀ w ∈ allW, w.before (List.toArray [.int x0, .long x1, .long x3]) s = true := fun w h => S.2.2.2.2 w (List.mem_cons_of_mem _ h)
  have hl : lv_has ls 5 [(0, .int x0), (1, .long x1), (3, .long x3)] := hl
  unfold f_X12_compares at hf
  refine lv_iload_n hx hb dX12_compares_0 rfl (lv_at hl 0 rfl) ?_
  by_cases h_1 : x0 = (5 : Int32)
  · replace hf := tx_pos hf h_1
    refine lv_tableIn (off := 35) (tgt := 36) hx hb dX12_compares_1 (by rw [h_1]; decide) (by rw [h_1]; decide) (by rw [h_1]; rfl) (by decide) ?_
    refine lv_lload_n hx hb dX12_compares_36 rfl (lv_at hl 1 rfl) ?_
    refine lv_lload_n hx hb dX12_compares_37 rfl (lv_at hl 2 rfl) ?_
    refine W.lcmp hx hb dX12_compares_38 ?_
    refine lv_if_ge (tgt := 46) hx hb dX12_compares_39 (by decide) (fun h_2 => ?_) (fun h_2 => ?_)
    · replace hf := tx_pos hf h_2
      refine lv_iconst (v := 0) hx hb dX12_compares_46 (by decide) ?_
      obtain e0 := tx_in1 hf
      rw [← e0]
      exact tx_zret S hr hlk (by decide) hw dX12_compares_47
    · replace hf := tx_neg hf h_2
      refine lv_iconst (v := 1) hx hb dX12_compares_42 (by decide) ?_
      refine lv_goto (tgt := 47) hx hb dX12_compares_43 (by decide) ?_
      obtain e0 := tx_in1 hf
      rw [← e0]
      exact tx_zret S hr hlk (by decide) hw dX12_compares_47
  replace hf := tx_neg hf h_1
  by_cases h_3 : x0 = (6 : Int32)
  · replace hf := tx_pos hf h_3
    refine lv_tableIn (off := 47) (tgt := 48) hx hb dX12_compares_1 (by rw [h_3]; decide) (by rw [h_3]; decide) (by rw [h_3]; rfl) (by decide) ?_
    refine lv_lload_n hx hb dX12_compares_48 rfl (lv_at hl 1 rfl) ?_
    refine lv_lload_n hx hb dX12_compares_49 rfl (lv_at hl 2 rfl) ?_
    refine W.lcmp hx hb dX12_compares_50 ?_
    refine lv_if_gt (tgt := 58) hx hb dX12_compares_51 (by decide) (fun h_4 => ?_) (fun h_4 => ?_)
    · replace hf := tx_pos hf h_4
      refine lv_iconst (v := 0) hx hb dX12_compares_58 (by decide) ?_
      obtain e0 := tx_in1 hf
      rw [← e0]
      exact tx_zret S hr hlk (by decide) hw dX12_compares_59
    · replace hf := tx_neg hf h_4
      refine lv_iconst (v := 1) hx hb dX12_compares_54 (by decide) ?_
      refine lv_goto (tgt := 59) hx hb dX12_compares_55 (by decide) ?_
      obtain e0 := tx_in1 hf
      rw [← e0]
      exact tx_zret S hr hlk (by decide) hw dX12_compares_59
  replace hf := tx_neg hf h_3
  by_cases h_5 : x0 = (7 : Int32)
  · replace hf := tx_pos hf h_5
    refine lv_tableIn (off := 59) (tgt := 60) hx hb dX12_compares_1 (by rw [h_5]; decide) (by rw [h_5]; decide) (by rw [h_5]; rfl) (by decide) ?_
    refine lv_lload_n hx hb dX12_compares_60 rfl (lv_at hl 1 rfl) ?_
    refine lv_lload_n hx hb dX12_compares_61 rfl (lv_at hl 2 rfl) ?_
    refine W.lcmp hx hb dX12_compares_62 ?_
    refine lv_if_ne (tgt := 70) hx hb dX12_compares_63 (by decide) (fun h_6 => ?_) (fun h_6 => ?_)
    · replace hf := tx_neg hf h_6
      refine lv_iconst (v := 0) hx hb dX12_compares_70 (by decide) ?_
      obtain e0 := tx_in1 hf
      rw [← e0]
      exact tx_zret S hr hlk (by decide) hw dX12_compares_71
    · replace hf := tx_pos hf h_6
      refine lv_iconst (v := 1) hx hb dX12_compares_66 (by decide) ?_
      refine lv_goto (tgt := 71) hx hb dX12_compares_67 (by decide) ?_
      obtain e0 := tx_in1 hf
      rw [← e0]
      exact tx_zret S hr hlk (by decide) hw dX12_compares_71
  replace hf := tx_neg hf h_5
  by_cases h_7 : x0 = (8 : Int32)
  · replace hf := tx_pos hf h_7
    refine lv_tableIn (off := 71) (tgt := 72) hx hb dX12_compares_1 (by rw [h_7]; decide) (by rw [h_7]; decide) (by rw [h_7]; rfl) (by decide) ?_
    refine lv_lload_n hx hb dX12_compares_72 rfl (lv_at hl 1 rfl) ?_
    refine lv_lload_n hx hb dX12_compares_73 rfl (lv_at hl 2 rfl) ?_
    refine W.lcmp hx hb dX12_compares_74 ?_
    refine lv_if_eq (tgt := 82) hx hb dX12_compares_75 (by decide) (fun h_8 => ?_) (fun h_8 => ?_)
    · replace hf := tx_pos hf h_8
      refine lv_iconst (v := 0) hx hb dX12_compares_82 (by decide) ?_
      obtain e0 := tx_in1 hf
      rw [← e0]
      exact tx_zret S hr hlk (by decide) hw dX12_compares_83
    · replace hf := tx_neg hf h_8
      refine lv_iconst (v := 1) hx hb dX12_compares_78 (by decide) ?_
      refine lv_goto (tgt := 83) hx hb dX12_compares_79 (by decide) ?_
      obtain e0 := tx_in1 hf
      rw [← e0]
      exact tx_zret S hr hlk (by decide) hw dX12_compares_83
  replace hf := tx_neg hf h_7
  by_cases h_9 : x0 = (9 : Int32)
  · replace hf := tx_pos hf h_9
    refine lv_tableIn (off := 83) (tgt := 84) hx hb dX12_compares_1 (by rw [h_9]; decide) (by rw [h_9]; decide) (by rw [h_9]; rfl) (by decide) ?_
    refine lv_lload_n hx hb dX12_compares_84 rfl (lv_at hl 1 rfl) ?_
    refine lv_lload_n hx hb dX12_compares_85 rfl (lv_at hl 2 rfl) ?_
    refine W.lcmp hx hb dX12_compares_86 ?_
    refine lv_if_lt (tgt := 94) hx hb dX12_compares_87 (by decide) (fun h_10 => ?_) (fun h_10 => ?_)
    · replace hf := tx_pos hf h_10
      refine lv_iconst (v := 0) hx hb dX12_compares_94 (by decide) ?_
      obtain e0 := tx_in1 hf
      rw [← e0]
      exact tx_zret S hr hlk (by decide) hw dX12_compares_95
    · replace hf := tx_neg hf h_10
      refine lv_iconst (v := 1) hx hb dX12_compares_90 (by decide) ?_
      refine lv_goto (tgt := 95) hx hb dX12_compares_91 (by decide) ?_
      obtain e0 := tx_in1 hf
      rw [← e0]
      exact tx_zret S hr hlk (by decide) hw dX12_compares_95
  replace hf := tx_neg hf h_9
  have eh_1 : x0.toInt ≠ 5 := tx_ne h_1
  have eh_3 : x0.toInt ≠ 6 := tx_ne h_3
  have eh_5 : x0.toInt ≠ 7 := tx_ne h_5
  have eh_7 : x0.toInt ≠ 8 := tx_ne h_7
  have eh_9 : x0.toInt ≠ 9 := tx_ne h_9
  refine lv_tableOut (tgt := 96) hx hb dX12_compares_1 (by omega) (by decide) ?_
  refine lv_lload_n hx hb dX12_compares_96 rfl (lv_at hl 1 rfl) ?_
  refine lv_lload_n hx hb dX12_compares_97 rfl (lv_at hl 2 rfl) ?_
  refine W.lcmp hx hb dX12_compares_98 ?_
  refine lv_if_le (tgt := 106) hx hb dX12_compares_99 (by decide) (fun h_11 => ?_) (fun h_11 => ?_)
  · replace hf := tx_pos hf h_11
    refine lv_iconst (v := 0) hx hb dX12_compares_106 (by decide) ?_
    obtain e0 := tx_in1 hf
    rw [← e0]
    exact tx_zret S hr hlk (by decide) hw dX12_compares_107
  · replace hf := tx_neg hf h_11
    refine lv_iconst (v := 1) hx hb dX12_compares_102 (by decide) ?_
    refine lv_goto (tgt := 107) hx hb dX12_compares_103 (by decide) ?_
    obtain e0 := tx_in1 hf
    rw [← e0]
    exact tx_zret S hr hlk (by decide) hw dX12_compares_107
