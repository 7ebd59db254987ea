/-! thought: it returns, or throws one of two -/
def thV (B W : S32) (x1 x2 : Int32) : Option Int32 := if x2 = (0 : Int32) then some (B 7 x1.toNatClampNeg) else if x2 = (1 : Int32) then some (B 8 x1.toNatClampNeg) else if x2 = (2 : Int32) then some (B 9 x1.toNatClampNeg) else if x2 = (3 : Int32) then some (B 10 x1.toNatClampNeg) else if x2 = (4 : Int32) then some (W 11 x1.toNatClampNeg) else if x2 = (5 : Int32) then some (W 12 x1.toNatClampNeg) else if x2 = (6 : Int32) then some (W 13 x1.toNatClampNeg) else none
def thE (r0 : Int32) (o : Option Int32) (E : String) : Prop := (r0 = 0 ∧ E = xI) ∨ (¬ r0 = 0 ∧ o = none ∧ E = xN)
theorem tx_XC {g : GG} {A : Nat → Prop} {ws : va_W} {s : State} {H : Heap} {locs : List Loc} {r0 : Int32} {o : Option Int32} {E : String} (hE : thE r0 o E) (hw : WD g A s.heap ws H locs) : ∀ t : State, s.vm.Alike t.vm → H.size ≤ t.heap.size → (∀ q : Nat, q < H.size → t.heap[q]? = H[q]?) → (vx_X (fun (_ : Unit) => True) (fun E _ t => thE r0 o E ∧ POST g A ws t) A) E s t :=
  fun t _ hsz hk => ⟨(), trivial, ⟨hE, hw.1.kept (fun k q hq => hk q.1 (hw.1 k q hq).lt), hw.2.1⟩, Nat.le_trans hw.2.2.1 hsz, fun q h1 h2 => (hk q (Nat.lt_of_lt_of_le h1 hw.2.2.1)).trans (hw.2.2.2.1 q h1 h2)⟩
set_option maxHeartbeats 8000000 in
set_option maxRecDepth 100000 in
theorem c_X11_thought {l : Launch} (hl9 : l.stackTraces = false) {g : GG} {A : Nat → Prop} {X : va_W} {fu : Nat} {a_T a_B a_W : Nat → Nat} {p_T_0 p_T_2 p_T_3 p_T_5 p_T_6 p_T_7 p_T_8 p_T_9 p_B_17 p_W_16 q1 q2 : Nat} {u_T : S32} {u_B : S32} {u_W : S32} {x1 : Int32} {x2 : Int32} {r0 : Int32} (hI : f_X0_isThought fu u_B x1 = some r0) (hck : ¬ r0 = 0 → vp_in x1 12) : vx_Met l yX11_thought (Cond.code yX11_thought cX11_thought 3 (some .int) :: allW) rmT (va_Pc [.ref (a_T 0), .int x1, .int x2] (PX g A q1 q2 (cl_X11 g a_T p_T_0 (a_B 0) p_T_2 p_T_3 (a_W 0) p_T_5 p_T_6 p_T_7 p_T_8 p_T_9 u_T ++ (cl_X0 g a_B p_B_17 u_B ++ (cl_X10 g a_W (a_B 0) p_W_16 u_W ++ X))))) (va_Qi (fun r2 (_ : Unit) => ¬ r0 = 0 ∧ thV u_B u_W x1 x2 = some r2) (fun _ t => POST g A (cl_X11 g a_T p_T_0 (a_B 0) p_T_2 p_T_3 (a_W 0) p_T_5 p_T_6 p_T_7 p_T_8 p_T_9 u_T ++ (cl_X0 g a_B p_B_17 u_B ++ (cl_X10 g a_W (a_B 0) p_W_16 u_W ++ X))) t) A) (vx_X (fun (_ : Unit) => True) (fun E _ t => thE r0 (thV u_B u_W x1 x2) E ∧ POST g A (cl_X11 g a_T p_T_0 (a_B 0) p_T_2 p_T_3 (a_W 0) p_T_5 p_T_6 p_T_7 p_T_8 p_T_9 u_T ++ (cl_X0 g a_B p_B_17 u_B ++ (cl_X10 g a_W (a_B 0) p_W_16 u_W ++ X))) t) A) 1 6 A := by
  refine tx_startX (av := [.ref (a_T 0), .int x1, .int x2]) (by decide) (Nat.le_of_ble_eq_true rfl) ?_
  intro p e s m below meth c ls S hr hlk htab hE hX hw hl
  have S : CallFix p m c cX11_thought 3 s (List.toArray [.ref (a_T 0), .int x1, .int x2]) (Cond.code yX11_thought cX11_thought 3 (some .int) :: allW) RX11 := S
  have hx := S.1
  have hb := S.2.1
  have hown := S.2.2.2.1
  have hts : ∀ w ∈ allW, w.before (List.toArray [.ref (a_T 0), .int x1, .int x2]) s = true := fun w h => S.2.2.2.2 w (List.mem_cons_of_mem _ h)
  have hl : lv_has ls 3 [(0, .ref (a_T 0)), (1, .int x1), (2, .int x2)] := hl
  have no : ∀ pc, ∀ x ∈ c.exceptionTable.toList, covers x pc = false := fun pc x hx => (htab x hx).elim
  refine lv_aload_n hx hb dX11_thought_0 rfl (lv_at hl 0 rfl) ?_
  refine gf_X11_21 S hE hw 0 rfl rfl dX11_thought_1 ?_
  refine lv_iload_n hx hb dX11_thought_4 rfl (lv_at hl 1 rfl) ?_
  have hw := hw.u1
  refine tx_ci hw (tx_runN S hE hw (c_X0_isThought hI) lk_X11_120 (q0 := 0) rfl rfl rfl hl.1 (rest := []) rfl (Nat.le_of_ble_eq_true rfl) ⟨by decide, by decide⟩ dX11_thought_5 ⟨Nat.zero_le _, Nat.zero_le _⟩) (fun H locs hw => ?_)
  refine lv_if_ne (tgt := 21) hx hb dX11_thought_8 (by decide) (fun h_3 => ?_) (fun h_3 => ?_)
  · refine lv_iload_n hx hb dX11_thought_21 rfl (lv_at hl 2 rfl) ?_
    by_cases z_0 : x2 = (0 : Int32)
    · refine lv_tableIn (off := 42) (tgt := 64) hx hb dX11_thought_22 (by rw [z_0]; decide) (by rw [z_0]; decide) (by rw [z_0]; rfl) (by decide) ?_
      refine lv_aload_n hx hb dX11_thought_64 rfl (lv_at hl 0 rfl) ?_
      refine gf_X11_21 S hE hw 11 rfl rfl dX11_thought_65 ?_
      refine gf_X11_130 S hE hw 0 rfl rfl dX11_thought_68 ?_
      refine lv_iload_n hx hb dX11_thought_71 rfl (lv_at hl 1 rfl) ?_
      refine tx_iald S hE hw 4 rfl (hck h_3) dX11_thought_72 ?_
      refine W.widen (k := 1) (n := 6) (by omega) (by omega) ?_
      exact tx_iretX S hr hlk (post := fun r2 => ¬ r0 = 0 ∧ thV u_B u_W x1 x2 = some r2) ⟨h_3, by unfold thV; rw [if_pos z_0]⟩ hw.u1 dX11_thought_73
    by_cases z_1 : x2 = (1 : Int32)
    · refine lv_tableIn (off := 52) (tgt := 74) hx hb dX11_thought_22 (by rw [z_1]; decide) (by rw [z_1]; decide) (by rw [z_1]; rfl) (by decide) ?_
      refine lv_aload_n hx hb dX11_thought_74 rfl (lv_at hl 0 rfl) ?_
      refine gf_X11_21 S hE hw 11 rfl rfl dX11_thought_75 ?_
      refine gf_X11_134 S hE hw 0 rfl rfl dX11_thought_78 ?_
      refine lv_iload_n hx hb dX11_thought_81 rfl (lv_at hl 1 rfl) ?_
      refine tx_iald S hE hw 5 rfl (hck h_3) dX11_thought_82 ?_
      refine W.widen (k := 1) (n := 6) (by omega) (by omega) ?_
      exact tx_iretX S hr hlk (post := fun r2 => ¬ r0 = 0 ∧ thV u_B u_W x1 x2 = some r2) ⟨h_3, by unfold thV; rw [if_neg z_0, if_pos z_1]⟩ hw.u1 dX11_thought_83
    by_cases z_2 : x2 = (2 : Int32)
    · refine lv_tableIn (off := 62) (tgt := 84) hx hb dX11_thought_22 (by rw [z_2]; decide) (by rw [z_2]; decide) (by rw [z_2]; rfl) (by decide) ?_
      refine lv_aload_n hx hb dX11_thought_84 rfl (lv_at hl 0 rfl) ?_
      refine gf_X11_21 S hE hw 11 rfl rfl dX11_thought_85 ?_
      refine gf_X11_137 S hE hw 0 rfl rfl dX11_thought_88 ?_
      refine lv_iload_n hx hb dX11_thought_91 rfl (lv_at hl 1 rfl) ?_
      refine tx_iald S hE hw 6 rfl (hck h_3) dX11_thought_92 ?_
      refine W.widen (k := 1) (n := 6) (by omega) (by omega) ?_
      exact tx_iretX S hr hlk (post := fun r2 => ¬ r0 = 0 ∧ thV u_B u_W x1 x2 = some r2) ⟨h_3, by unfold thV; rw [if_neg z_0, if_neg z_1, if_pos z_2]⟩ hw.u1 dX11_thought_93
    by_cases z_3 : x2 = (3 : Int32)
    · refine lv_tableIn (off := 72) (tgt := 94) hx hb dX11_thought_22 (by rw [z_3]; decide) (by rw [z_3]; decide) (by rw [z_3]; rfl) (by decide) ?_
      refine lv_aload_n hx hb dX11_thought_94 rfl (lv_at hl 0 rfl) ?_
      refine gf_X11_21 S hE hw 11 rfl rfl dX11_thought_95 ?_
      refine gf_X11_140 S hE hw 0 rfl rfl dX11_thought_98 ?_
      refine lv_iload_n hx hb dX11_thought_101 rfl (lv_at hl 1 rfl) ?_
      refine tx_iald S hE hw 7 rfl (hck h_3) dX11_thought_102 ?_
      refine W.widen (k := 1) (n := 6) (by omega) (by omega) ?_
      exact tx_iretX S hr hlk (post := fun r2 => ¬ r0 = 0 ∧ thV u_B u_W x1 x2 = some r2) ⟨h_3, by unfold thV; rw [if_neg z_0, if_neg z_1, if_neg z_2, if_pos z_3]⟩ hw.u1 dX11_thought_103
    by_cases z_4 : x2 = (4 : Int32)
    · refine lv_tableIn (off := 82) (tgt := 104) hx hb dX11_thought_22 (by rw [z_4]; decide) (by rw [z_4]; decide) (by rw [z_4]; rfl) (by decide) ?_
      refine lv_aload_n hx hb dX11_thought_104 rfl (lv_at hl 0 rfl) ?_
      refine gf_X11_42 S hE hw 11 rfl rfl dX11_thought_105 ?_
      refine gf_X11_143 S hE hw 12 rfl rfl dX11_thought_108 ?_
      refine lv_iload_n hx hb dX11_thought_111 rfl (lv_at hl 1 rfl) ?_
      refine tx_iald S hE hw 19 rfl (hck h_3) dX11_thought_112 ?_
      refine W.widen (k := 1) (n := 6) (by omega) (by omega) ?_
      exact tx_iretX S hr hlk (post := fun r2 => ¬ r0 = 0 ∧ thV u_B u_W x1 x2 = some r2) ⟨h_3, by unfold thV; rw [if_neg z_0, if_neg z_1, if_neg z_2, if_neg z_3, if_pos z_4]⟩ hw.u1 dX11_thought_113
    by_cases z_5 : x2 = (5 : Int32)
    · refine lv_tableIn (off := 92) (tgt := 114) hx hb dX11_thought_22 (by rw [z_5]; decide) (by rw [z_5]; decide) (by rw [z_5]; rfl) (by decide) ?_
      refine lv_aload_n hx hb dX11_thought_114 rfl (lv_at hl 0 rfl) ?_
      refine gf_X11_42 S hE hw 11 rfl rfl dX11_thought_115 ?_
      refine gf_X11_146 S hE hw 12 rfl rfl dX11_thought_118 ?_
      refine lv_iload_n hx hb dX11_thought_121 rfl (lv_at hl 1 rfl) ?_
      refine tx_iald S hE hw 20 rfl (hck h_3) dX11_thought_122 ?_
      refine W.widen (k := 1) (n := 6) (by omega) (by omega) ?_
      exact tx_iretX S hr hlk (post := fun r2 => ¬ r0 = 0 ∧ thV u_B u_W x1 x2 = some r2) ⟨h_3, by unfold thV; rw [if_neg z_0, if_neg z_1, if_neg z_2, if_neg z_3, if_neg z_4, if_pos z_5]⟩ hw.u1 dX11_thought_123
    by_cases z_6 : x2 = (6 : Int32)
    · refine lv_tableIn (off := 102) (tgt := 124) hx hb dX11_thought_22 (by rw [z_6]; decide) (by rw [z_6]; decide) (by rw [z_6]; rfl) (by decide) ?_
      refine lv_aload_n hx hb dX11_thought_124 rfl (lv_at hl 0 rfl) ?_
      refine gf_X11_42 S hE hw 11 rfl rfl dX11_thought_125 ?_
      refine gf_X11_149 S hE hw 12 rfl rfl dX11_thought_128 ?_
      refine lv_iload_n hx hb dX11_thought_131 rfl (lv_at hl 1 rfl) ?_
      refine tx_iald S hE hw 21 rfl (hck h_3) dX11_thought_132 ?_
      refine W.widen (k := 1) (n := 6) (by omega) (by omega) ?_
      exact tx_iretX S hr hlk (post := fun r2 => ¬ r0 = 0 ∧ thV u_B u_W x1 x2 = some r2) ⟨h_3, by unfold thV; rw [if_neg z_0, if_neg z_1, if_neg z_2, if_neg z_3, if_neg z_4, if_neg z_5, if_pos z_6]⟩ hw.u1 dX11_thought_133
    have zn : thV u_B u_W x1 x2 = none := by
      unfold thV
      rw [if_neg z_0, if_neg z_1, if_neg z_2, if_neg z_3, if_neg z_4, if_neg z_5, if_neg z_6]
    have e0 : x2.toInt ≠ 0 := tx_ne z_0
    have e1 : x2.toInt ≠ 1 := tx_ne z_1
    have e2 : x2.toInt ≠ 2 := tx_ne z_2
    have e3 : x2.toInt ≠ 3 := tx_ne z_3
    have e4 : x2.toInt ≠ 4 := tx_ne z_4
    have e5 : x2.toInt ≠ 5 := tx_ne z_5
    have e6 : x2.toInt ≠ 6 := tx_ne z_6
    refine lv_tableOut (tgt := 134) hx hb dX11_thought_22 (by omega) (by decide) ?_
    exact tx_throwX (own := RX11) (cls := xN) (text := "no such what") (names := xNames) (ik := 152) (is := 154) (ic := 156) (ix := 13) (rx := xThi) hx hb hl9 tw_thi.1 tw_thi.2.1 tw_thi.2.2.1 tw_thi.2.2.2 hown (by decide +kernel) (by decide +kernel) (hts _ tw_cl2) (hts _ tw_ini2) hX.2.1 (tw_at tw_in2 hts hX.2.2.2.2.2) tw_good2 hX.2.2.1 hX.2.2.2.1 hw.2.2 (hl.1.trans S.2.2.1.symm) dX11_thought_134 dX11_thought_137 dX11_thought_138 dX11_thought_140 dX11_thought_143 (no _) (by decide) (by decide) (by decide) (by decide) hlk (tx_XC (Or.inr ⟨h_3, zn, rfl⟩) hw.u1) hw.2.2.2.2 (by omega) (by omega)
  · exact tx_throwX (own := RX11) (cls := xI) (text := "no such thought") (names := xNames) (ik := 123) (is := 125) (ic := 127) (ix := 7) (rx := xSix) hx hb hl9 tw_six.1 tw_six.2.1 tw_six.2.2.1 tw_six.2.2.2 hown (by decide +kernel) (by decide +kernel) (hts _ tw_cl1) (hts _ tw_ini1) hX.1 (tw_at tw_in1 hts hX.2.2.2.2.2) tw_good1 hX.2.2.1 hX.2.2.2.1 hw.2.2 (hl.1.trans S.2.2.1.symm) dX11_thought_11 dX11_thought_14 dX11_thought_15 dX11_thought_17 dX11_thought_20 (no _) (by decide) (by decide) (by decide) (by decide) hlk (tx_XC (Or.inl ⟨h_3, rfl⟩) hw.u1) hw.2.2.2.2 (by omega) (by omega)
