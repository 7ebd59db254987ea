/-! the law's own thought: what is thrown is caught -/
def THK (r0 : Int32) (o : Option Int32) (fo : Nat → Int64) (r : Int32) (fo' : Nat → Int64) : Prop := (r0 = 0 ∧ r = 1 ∧ fo' = fo) ∨ (¬ r0 = 0 ∧ o = none ∧ r = 2 ∧ fo' = fo) ∨ (¬ r0 = 0 ∧ ∃ x, o = some x ∧ r = 0 ∧ fo' = vp_updL fo 0 x.toInt64)
set_option maxHeartbeats 8000000 in
set_option maxRecDepth 100000 in
theorem c_L_thought {l : Launch} (hl9 : l.stackTraces = false) {g : GG} {A : Nat → Prop} {X : va_W} {fu : Nat} {a_T a_B a_W : Nat → Nat} {p_T_0 p_T_2 p_T_3 p_T_5 p_T_6 p_T_7 p_T_8 p_T_9 p_B_17 p_W_16 q1 q2 qo : Nat} {u_T : S32} {u_B : S32} {u_W : S32} {x1 : Int32} {x2 : Int32} {r0 r : Int32} {fo fo' : Nat → Int64} (hI : f_X0_isThought fu u_B x1 = some r0) (hck : ¬ r0 = 0 → vp_in x1 12) (hk : THK r0 (thV u_B u_W x1 x2) fo r fo') : vx_Met l yL_thought (Cond.codeWith yL_thought cL_thought 5 (some .int) [(0, 10, 13, 13), (0, 10, 17, 15)] :: allW) rmU (va_Pc [.ref (a_T 0), .int x1, .int x2, .ref qo] (PX g A q1 q2 (cl_X11 g a_T p_T_0 (a_B 0) p_T_2 p_T_3 (a_W 0) p_T_5 p_T_6 p_T_7 p_T_8 p_T_9 u_T ++ (cl_X0 g a_B p_B_17 u_B ++ (cl_X10 g a_W (a_B 0) p_W_16 u_W ++ ([(qo, .inl (g.2.1 2, 1, .inr (.inl fo)))] ++ X)))))) (va_Qi (fun r2 (_ : Unit) => r2 = r) (fun _ t => POST g A (cl_X11 g a_T p_T_0 (a_B 0) p_T_2 p_T_3 (a_W 0) p_T_5 p_T_6 p_T_7 p_T_8 p_T_9 u_T ++ (cl_X0 g a_B p_B_17 u_B ++ (cl_X10 g a_W (a_B 0) p_W_16 u_W ++ ([(qo, .inl (g.2.1 2, 1, .inr (.inl fo')))] ++ X)))) t) A) (vx_X (fun (_ : Unit) => False) (fun _ _ _ => True) A) 1 6 A := by
  refine tx_startH (av := [.ref (a_T 0), .int x1, .int x2, .ref qo]) (by decide) (Nat.le_of_ble_eq_true rfl) ?_
  intro p e s m below meth c ls S hr hlk hTab hE hX hw hl
  have S : CallFix p m c cL_thought 5 s (List.toArray [.ref (a_T 0), .int x1, .int x2, .ref qo]) (Cond.codeWith yL_thought cL_thought 5 (some .int) [(0, 10, 13, 13), (0, 10, 17, 15)] :: allW) RL := S
  have hx := S.1
  have hb := S.2.1
  have hown := S.2.2.2.1
  have hts : ∀ w ∈ allW, w.before (List.toArray [.ref (a_T 0), .int x1, .int x2, .ref qo]) s = true := fun w h => S.2.2.2.2 w (List.mem_cons_of_mem _ h)
  have hl : lv_has ls 5 [(0, .ref (a_T 0)), (1, .int x1), (2, .int x2), (3, .ref qo)] := hl
  refine lv_aload_n hx hb dL_thought_0 rfl (lv_at hl 3 rfl) ?_
  refine lv_iconst (v := 0) hx hb dL_thought_1 (by decide) ?_
  refine lv_aload_n hx hb dL_thought_2 rfl (lv_at hl 0 rfl) ?_
  refine lv_iload_n hx hb dL_thought_3 rfl (lv_at hl 1 rfl) ?_
  refine lv_iload_n hx hb dL_thought_4 rfl (lv_at hl 2 rfl) ?_
  have hM := c_X11_thought (l := l) hl9 (g := g) (A := A) (X := [(qo, .inl (g.2.1 2, 1, .inr (.inl fo)))] ++ X) (a_T := a_T) (a_B := a_B) (a_W := a_W) (p_T_0 := p_T_0) (p_T_2 := p_T_2) (p_T_3 := p_T_3) (p_T_5 := p_T_5) (p_T_6 := p_T_6) (p_T_7 := p_T_7) (p_T_8 := p_T_8) (p_T_9 := p_T_9) (p_B_17 := p_B_17) (p_W_16 := p_W_16) (q1 := q1) (q2 := q2) (u_T := u_T) (u_W := u_W) (x2 := x2) hI hck
  have hrun := vx_runV (p := p) (l := l) (e := e) (R := rmU) (below := below) (meth := meth) (locs := []) (cells := 0) (slots := 0) (b := a_T 0) (As := [.int x1, .int x2]) (rest := [.int 0, .ref qo]) (C := RX11) (g := F0 m 5 ls [.int x2, .int x1, .ref (a_T 0), .int 0, .ref qo]) S hM ⟨callB_of 2 S.2.2.2.2 (tx_goodIn tw_code) rfl rfl rfl (hts _ kw_1) (hts _ tw_l7) ⟨by decide +kernel, by decide +kernel, by decide +kernel⟩ ⟨by decide, by decide⟩, hts _ tw_in7, hts _ tw_se7⟩ ⟨tx_blindX, va_recv hE.1 hw.1 (q0 := 0) (ci := 11) (a := a_T 0) rfl rfl, tx_PREX hE hX hw⟩ rfl rfl hl.1 rfl (lv_room (Nat.le_of_ble_eq_true rfl)) dL_thought_5 ⟨by decide, by decide⟩
  refine vx_calli hrun hw.2.2 (fun _ _ h => h) (fun _ h => h) (fun _ _ h => h) (fun E ce q9 u t H1 locs1 ht ha hp hB hz hq hS hce hcv hcl => ?_) (fun r2 u t H1 locs1 ht ha hp hB hz hq hS => ?_)
  · obtain ⟨hE9, hP9, hD9⟩ := hB
    have hw : WD g A s.heap (cl_X11 g a_T p_T_0 (a_B 0) p_T_2 p_T_3 (a_W 0) p_T_5 p_T_6 p_T_7 p_T_8 p_T_9 u_T ++ (cl_X0 g a_B p_B_17 u_B ++ (cl_X10 g a_W (a_B 0) p_W_16 u_W ++ ([(qo, .inl (g.2.1 2, 1, .inr (.inl fo)))] ++ X)))) H1 locs1 := ⟨by rw [← ht]; exact hP9, hD9, hS⟩
    rcases hE9 with ⟨z1, rfl⟩ | ⟨z1, z2, rfl⟩
    · have hr1 : r = 1 ∧ fo' = fo := by
        rcases hk with ⟨-, k2, k3⟩ | ⟨k1, -⟩ | ⟨k1, -⟩
        · exact ⟨k2, k3⟩
        · exact absurd z1 k1
        · exact absurd z1 k1
      obtain ⟨rfl, rfl⟩ := hr1
      refine vx_catch (own := RL) (name := xI) (E := xI) hown [] ⟨0, 10, 13, 13⟩ [⟨0, 10, 17, 15⟩] (by rw [hTab]; rfl) (fun z hz => nomatch hz) (by decide) (by decide) (hts _ tw_lcl1) (va_Nw.use rfl (hX.2.2.2.2.2 _ (by simp [XW, xI]))) hce hcv hcl ?_
      refine lv_astore (lv' := [(4, .ref q9), (0, .ref (a_T 0)), (1, .int x1), (2, .int x2), (3, .ref qo)]) hx hb dL_thought_13 hl (by decide) rfl (fun ls hl => ?_)
      refine lv_iconst (v := 1) hx hb dL_thought_15 (by decide) ?_
      exact tx_iretX S hr hlk (post := fun r2 => r2 = 1) rfl hw dL_thought_16
    · have hr1 : r = 2 ∧ fo' = fo := by
        rcases hk with ⟨k1, -⟩ | ⟨-, -, k2, k3⟩ | ⟨-, x, k1, -⟩
        · exact absurd k1 z1
        · exact ⟨k2, k3⟩
        · rw [z2] at k1; cases k1
      obtain ⟨rfl, rfl⟩ := hr1
      refine vx_catch (own := RL) (name := xN) (E := xN) hown [⟨0, 10, 13, 13⟩] ⟨0, 10, 17, 15⟩ [] (by rw [hTab]; rfl) (fun z hz => ?_) (by decide) (by decide) (hts _ tw_lcl2) (va_Nw.use rfl (hX.2.2.2.2.2 _ (by simp [XW, xN]))) hce hcv hcl ?_
      · rcases List.mem_cons.mp hz with rfl | hz
        · exact Or.inr ⟨by decide, xI, hts _ tw_lcl1, hX.2.2.2.2.1⟩
        · cases hz
      refine lv_astore (lv' := [(4, .ref q9), (0, .ref (a_T 0)), (1, .int x1), (2, .int x2), (3, .ref qo)]) hx hb dL_thought_17 hl (by decide) rfl (fun ls hl => ?_)
      refine lv_iconst (v := 2) hx hb dL_thought_19 (by decide) ?_
      exact tx_iretX S hr hlk (post := fun r2 => r2 = 2) rfl hw dL_thought_20
  · obtain ⟨z1, z2⟩ := hp
    have hr1 : r = 0 ∧ fo' = vp_updL fo 0 r2.toInt64 := by
      rcases hk with ⟨k1, -⟩ | ⟨-, k1, -⟩ | ⟨-, x, k1, k2, k3⟩
      · exact absurd k1 z1
      · rw [z2] at k1; cases k1
      · rw [z2] at k1
        cases k1
        exact ⟨k2, k3⟩
    obtain ⟨rfl, rfl⟩ := hr1
    have hw : WD g A s.heap (cl_X11 g a_T p_T_0 (a_B 0) p_T_2 p_T_3 (a_W 0) p_T_5 p_T_6 p_T_7 p_T_8 p_T_9 u_T ++ (cl_X0 g a_B p_B_17 u_B ++ (cl_X10 g a_W (a_B 0) p_W_16 u_W ++ ([(qo, .inl (g.2.1 2, 1, .inr (.inl fo)))] ++ X)))) H1 locs1 := ⟨by rw [← ht]; exact hB.1, hB.2, hS⟩
    refine lv_i2l hx hb dL_thought_8 rfl ?_
    refine tx_last S hE hw 24 rfl (show vp_in (nI 0) 1 from vp_in_nI (by omega) (by omega)) rfl dL_thought_9 (fun H locs hw => ?_)
    refine lv_goto (tgt := 21) hx hb dL_thought_10 (by decide) ?_
    refine lv_iconst (v := 0) hx hb dL_thought_21 (by decide) ?_
    exact tx_iretX S hr hlk (post := fun r2 => r2 = 0) rfl hw dL_thought_22
