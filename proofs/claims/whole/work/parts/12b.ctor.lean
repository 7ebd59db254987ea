def i_X6_u : S32 := fun _ _ => 0
set_option maxHeartbeats 4000000 in
set_option maxRecDepth 100000 in
theorem k_X6_init {l : Launch} {g : GG} {A : Nat → Prop} {X : va_W} {o : Nat} : MK l yX6_init cX6_init 1 1 1 700 g A ([(o, .inr (6, [.null, .int 0]))] ++ X) [.ref o] o (fun ad => cl_X6 g (ad 0) i_X6_u ++ X) := by
  refine tx_startC (av := [.ref o]) (by decide) rfl (Nat.le_of_ble_eq_true rfl) ?_
  intro p e s m below meth c ls S hr hlk hin hE hA hw hl
  have S : CallFix p m c cX6_init 1 s (List.toArray [.ref o]) (Cond.code yX6_init cX6_init 1 none :: allW) RX6 := S
  have hx := S.1
  have hb := S.2.1
  generalize hL0 : ([] : List Loc) = locs at hw ⊢
  have hl : lv_has ls 1 [(0, .ref o)] := hl
  refine lv_aload_n hx hb dX6_init_0 rfl (lv_at hl 0 rfl) ?_
  refine tx_objInit S kw_35 hl.1 (by decide) (Nat.le_of_ble_eq_true rfl) dX6_init_1 ?_
  refine lv_aload_n hx hb dX6_init_4 rfl (lv_at hl 0 rfl) ?_
  refine lv_sipush (v := 700) hx hb dX6_init_5 (by decide) ?_
  refine tx_newab S hE hA hw 700 (by decide) (by decide) (by decide) (by decide) (by decide) dX6_init_8 (fun q0 H hw => ?_)
  have hw : WD g A s.heap ([(o, .inr (6, [.null, .int 0])), (q0, .inl (g.2.1 0, 700, .inl (fun _ => 0)))] ++ X) H locs := hw
  refine tx_putF (ws' := [(o, .inr (6, [.ref q0, .int 0])), (q0, .inl (g.2.1 0, 700, .inl (fun _ => 0)))] ++ X) S hE hw 0 inX6 tyX6_ok nmX6 rfl (by decide) kw_36 rfl rfl hin (tyX6_ok 0 (by decide)) rfl rfl 0 rfl (Nat.le_of_ble_eq_true rfl) rfl dX6_init_10 (fun H locs hw => ?_)
  obtain ⟨a_T, hw, ho⟩ : ∃ a_T : Nat → Nat, WD g A s.heap (cl_X6 g a_T i_X6_u ++ X) H locs ∧ a_T 0 = o := ⟨fun k => [o, q0, 0].getD k 0, hw, rfl⟩
  exact tx_vretC S hr hlk (fun i => [a_T].getD i (fun _ => 0)) ho hw (by decide) (by decide) dX6_init_13
def wd_X5_0 : Nat → Int32 := upd (fun _ => 0) 0 (-1 : Int32)
def wd_X5_1 : Nat → Int32 := upd wd_X5_0 1 (-1 : Int32)
def wd_X5_2 : Nat → Int32 := upd wd_X5_1 2 (-1 : Int32)
def i_X5_u : S32 := rw2 (fun _ _ => 0) 3 (wd_X5_2)
def i_X5_v : S64 := fun _ _ => 0
set_option maxHeartbeats 4000000 in
set_option maxRecDepth 100000 in
theorem k_X5_init {l : Launch} {g : GG} {A : Nat → Prop} {X : va_W} {o : Nat} : MK l yX5_init cX5_init 1 1 5 198 g A ([(o, .inr (5, [.null, .null, .null, .null, .null, .int 0]))] ++ X) [.ref o] o (fun ad => cl_X5 g (ad 0) i_X5_u i_X5_v ++ X) := by
  refine tx_startC (av := [.ref o]) (by decide) rfl (Nat.le_of_ble_eq_true rfl) ?_
  intro p e s m below meth c ls S hr hlk hin hE hA hw hl
  have S : CallFix p m c cX5_init 1 s (List.toArray [.ref o]) (Cond.code yX5_init cX5_init 1 none :: allW) RX5 := S
  have hx := S.1
  have hb := S.2.1
  generalize hL0 : ([] : List Loc) = locs at hw ⊢
  have hl : lv_has ls 1 [(0, .ref o)] := hl
  refine lv_aload_n hx hb dX5_init_0 rfl (lv_at hl 0 rfl) ?_
  refine tx_objInit S kw_57 hl.1 (by decide) (Nat.le_of_ble_eq_true rfl) dX5_init_1 ?_
  refine lv_aload_n hx hb dX5_init_4 rfl (lv_at hl 0 rfl) ?_
  refine lv_bipush (v := 64) hx hb dX5_init_5 (by decide) ?_
  refine tx_newai S hE hA hw 64 (by decide) (by decide) (by decide) (by decide) (by decide) dX5_init_7 (fun q0 H hw => ?_)
  have hw : WD g A s.heap ([(o, .inr (5, [.null, .null, .null, .null, .null, .int 0])), (q0, .inl (g.2.1 1, 64, .inl (fun _ => 0)))] ++ X) H locs := hw
  refine tx_putF (ws' := [(o, .inr (5, [.ref q0, .null, .null, .null, .null, .int 0])), (q0, .inl (g.2.1 1, 64, .inl (fun _ => 0)))] ++ X) S hE hw 0 inX5 tyX5_ok nmX5 rfl (by decide) kw_58 rfl rfl hin (tyX5_ok 0 (by decide)) rfl rfl 0 rfl (Nat.le_of_ble_eq_true rfl) rfl dX5_init_9 (fun H locs hw => ?_)
  refine lv_aload_n hx hb dX5_init_12 rfl (lv_at hl 0 rfl) ?_
  refine lv_bipush (v := 64) hx hb dX5_init_13 (by decide) ?_
  refine tx_newai S hE hA hw 64 (by decide) (by decide) (by decide) (by decide) (by decide) dX5_init_15 (fun q1 H hw => ?_)
  have hw : WD g A s.heap ([(o, .inr (5, [.ref q0, .null, .null, .null, .null, .int 0])), (q0, .inl (g.2.1 1, 64, .inl (fun _ => 0))), (q1, .inl (g.2.1 1, 64, .inl (fun _ => 0)))] ++ X) H locs := hw
  refine tx_putF (ws' := [(o, .inr (5, [.ref q0, .ref q1, .null, .null, .null, .int 0])), (q0, .inl (g.2.1 1, 64, .inl (fun _ => 0))), (q1, .inl (g.2.1 1, 64, .inl (fun _ => 0)))] ++ X) S hE hw 1 inX5 tyX5_ok nmX5 rfl (by decide) kw_59 rfl rfl hin (tyX5_ok 1 (by decide)) rfl rfl 0 rfl (Nat.le_of_ble_eq_true rfl) rfl dX5_init_17 (fun H locs hw => ?_)
  refine lv_aload_n hx hb dX5_init_20 rfl (lv_at hl 0 rfl) ?_
  refine lv_iconst (v := 3) hx hb dX5_init_21 (by decide) ?_
  refine tx_newai S hE hA hw 3 (by decide) (by decide) (by decide) (by decide) (by decide) dX5_init_22 (fun q2 H hw => ?_)
  have hw : WD g A s.heap ([(o, .inr (5, [.ref q0, .ref q1, .null, .null, .null, .int 0])), (q0, .inl (g.2.1 1, 64, .inl (fun _ => 0))), (q1, .inl (g.2.1 1, 64, .inl (fun _ => 0))), (q2, .inl (g.2.1 1, 3, .inl (fun _ => 0)))] ++ X) H locs := hw
  refine lv_dup hx hb dX5_init_24 rfl ?_
  refine lv_iconst (v := 0) hx hb dX5_init_25 (by decide) ?_
  refine lv_iconst (v := -1) hx hb dX5_init_26 (by decide) ?_
  refine tx_iast (ws' := [(o, .inr (5, [.ref q0, .ref q1, .null, .null, .null, .int 0])), (q0, .inl (g.2.1 1, 64, .inl (fun _ => 0))), (q1, .inl (g.2.1 1, 64, .inl (fun _ => 0))), (q2, .inl (g.2.1 1, 3, .inl (wd_X5_0)))] ++ X) S hE hw 3 rfl (by unfold vp_in; decide) rfl dX5_init_27 (fun H locs hw => ?_)
  refine lv_dup hx hb dX5_init_28 rfl ?_
  refine lv_iconst (v := 1) hx hb dX5_init_29 (by decide) ?_
  refine lv_iconst (v := -1) hx hb dX5_init_30 (by decide) ?_
  refine tx_iast (ws' := [(o, .inr (5, [.ref q0, .ref q1, .null, .null, .null, .int 0])), (q0, .inl (g.2.1 1, 64, .inl (fun _ => 0))), (q1, .inl (g.2.1 1, 64, .inl (fun _ => 0))), (q2, .inl (g.2.1 1, 3, .inl (wd_X5_1)))] ++ X) S hE hw 3 rfl (by unfold vp_in; decide) rfl dX5_init_31 (fun H locs hw => ?_)
  refine lv_dup hx hb dX5_init_32 rfl ?_
  refine lv_iconst (v := 2) hx hb dX5_init_33 (by decide) ?_
  refine lv_iconst (v := -1) hx hb dX5_init_34 (by decide) ?_
  refine tx_iast (ws' := [(o, .inr (5, [.ref q0, .ref q1, .null, .null, .null, .int 0])), (q0, .inl (g.2.1 1, 64, .inl (fun _ => 0))), (q1, .inl (g.2.1 1, 64, .inl (fun _ => 0))), (q2, .inl (g.2.1 1, 3, .inl (wd_X5_2)))] ++ X) S hE hw 3 rfl (by unfold vp_in; decide) rfl dX5_init_35 (fun H locs hw => ?_)
  refine tx_putF (ws' := [(o, .inr (5, [.ref q0, .ref q1, .ref q2, .null, .null, .int 0])), (q0, .inl (g.2.1 1, 64, .inl (fun _ => 0))), (q1, .inl (g.2.1 1, 64, .inl (fun _ => 0))), (q2, .inl (g.2.1 1, 3, .inl (wd_X5_2)))] ++ X) S hE hw 2 inX5 tyX5_ok nmX5 rfl (by decide) kw_60 rfl rfl hin (tyX5_ok 2 (by decide)) rfl rfl 0 rfl (Nat.le_of_ble_eq_true rfl) rfl dX5_init_36 (fun H locs hw => ?_)
  refine lv_aload_n hx hb dX5_init_39 rfl (lv_at hl 0 rfl) ?_
  refine lv_iconst (v := 3) hx hb dX5_init_40 (by decide) ?_
  refine tx_newai S hE hA hw 3 (by decide) (by decide) (by decide) (by decide) (by decide) dX5_init_41 (fun q3 H hw => ?_)
  have hw : WD g A s.heap ([(o, .inr (5, [.ref q0, .ref q1, .ref q2, .null, .null, .int 0])), (q0, .inl (g.2.1 1, 64, .inl (fun _ => 0))), (q1, .inl (g.2.1 1, 64, .inl (fun _ => 0))), (q2, .inl (g.2.1 1, 3, .inl (wd_X5_2))), (q3, .inl (g.2.1 1, 3, .inl (fun _ => 0)))] ++ X) H locs := hw
  refine tx_putF (ws' := [(o, .inr (5, [.ref q0, .ref q1, .ref q2, .ref q3, .null, .int 0])), (q0, .inl (g.2.1 1, 64, .inl (fun _ => 0))), (q1, .inl (g.2.1 1, 64, .inl (fun _ => 0))), (q2, .inl (g.2.1 1, 3, .inl (wd_X5_2))), (q3, .inl (g.2.1 1, 3, .inl (fun _ => 0)))] ++ X) S hE hw 3 inX5 tyX5_ok nmX5 rfl (by decide) kw_61 rfl rfl hin (tyX5_ok 3 (by decide)) rfl rfl 0 rfl (Nat.le_of_ble_eq_true rfl) rfl dX5_init_43 (fun H locs hw => ?_)
  refine lv_aload_n hx hb dX5_init_46 rfl (lv_at hl 0 rfl) ?_
  refine lv_bipush (v := 64) hx hb dX5_init_47 (by decide) ?_
  refine tx_newal S hE hA hw 64 (by decide) (by decide) (by decide) (by decide) (by decide) dX5_init_49 (fun q4 H hw => ?_)
  have hw : WD g A s.heap ([(o, .inr (5, [.ref q0, .ref q1, .ref q2, .ref q3, .null, .int 0])), (q0, .inl (g.2.1 1, 64, .inl (fun _ => 0))), (q1, .inl (g.2.1 1, 64, .inl (fun _ => 0))), (q2, .inl (g.2.1 1, 3, .inl (wd_X5_2))), (q3, .inl (g.2.1 1, 3, .inl (fun _ => 0))), (q4, .inl (g.2.1 2, 64, .inr (.inl (fun _ => 0))))] ++ X) H locs := hw
  refine tx_putF (ws' := [(o, .inr (5, [.ref q0, .ref q1, .ref q2, .ref q3, .ref q4, .int 0])), (q0, .inl (g.2.1 1, 64, .inl (fun _ => 0))), (q1, .inl (g.2.1 1, 64, .inl (fun _ => 0))), (q2, .inl (g.2.1 1, 3, .inl (wd_X5_2))), (q3, .inl (g.2.1 1, 3, .inl (fun _ => 0))), (q4, .inl (g.2.1 2, 64, .inr (.inl (fun _ => 0))))] ++ X) S hE hw 4 inX5 tyX5_ok nmX5 rfl (by decide) kw_62 rfl rfl hin (tyX5_ok 4 (by decide)) rfl rfl 0 rfl (Nat.le_of_ble_eq_true rfl) rfl dX5_init_51 (fun H locs hw => ?_)
  obtain ⟨a_T, hw, ho⟩ : ∃ a_T : Nat → Nat, WD g A s.heap (cl_X5 g a_T i_X5_u i_X5_v ++ X) H locs ∧ a_T 0 = o := ⟨fun k => [o, q0, q1, q2, q3, q4, 0].getD k 0, hw, rfl⟩
  exact tx_vretC S hr hlk (fun i => [a_T].getD i (fun _ => 0)) ho hw (by decide) (by decide) dX5_init_54
def i_X0_u : S32 := up2 (up2 (fun _ _ => 0) 0 14 (20 : Int32)) 0 15 (5 : Int32)
set_option maxHeartbeats 4000000 in
set_option maxRecDepth 100000 in
theorem k_X0_init {l : Launch} {g : GG} {A : Nat → Prop} {X : va_W} {o : Nat} : MK l yX0_init cX0_init 1 2 16 282 g A ([(o, .inr (0, [.int 0, .int 0, .null, .null, .null, .int 0, .null, .null, .null, .null, .int 0, .null, .null, .null, .int 0, .int 0, .int 0, .null]))] ++ X) [.ref o] o (fun ad => cl_X0 g (ad 0) (ad 1 0) i_X0_u ++ (cl_X5 g (ad 1) i_X5_u i_X5_v ++ X)) := by
  refine tx_startC (av := [.ref o]) (by decide) rfl (Nat.le_of_ble_eq_true rfl) ?_
  intro p e s m below meth c ls S hr hlk hin hE hA hw hl
  have S : CallFix p m c cX0_init 1 s (List.toArray [.ref o]) (Cond.code yX0_init cX0_init 1 none :: allW) RX0 := S
  have hx := S.1
  have hb := S.2.1
  generalize hL0 : ([] : List Loc) = locs at hw ⊢
  have hl : lv_has ls 1 [(0, .ref o)] := hl
  refine lv_aload_n hx hb dX0_init_0 rfl (lv_at hl 0 rfl) ?_
  refine tx_objInit S kw_51 hl.1 (by decide) (Nat.le_of_ble_eq_true rfl) dX0_init_1 ?_
  refine lv_aload_n hx hb dX0_init_4 rfl (lv_at hl 0 rfl) ?_
  refine lv_bipush (v := 6) hx hb dX0_init_5 (by decide) ?_
  refine tx_newai S hE hA hw 6 (by decide) (by decide) (by decide) (by decide) (by decide) dX0_init_7 (fun q0 H hw => ?_)
  have hw : WD g A s.heap ([(o, .inr (0, [.int 0, .int 0, .null, .null, .null, .int 0, .null, .null, .null, .null, .int 0, .null, .null, .null, .int 0, .int 0, .int 0, .null])), (q0, .inl (g.2.1 1, 6, .inl (fun _ => 0)))] ++ X) H locs := hw
  refine tx_putF (ws' := [(o, .inr (0, [.int 0, .int 0, .ref q0, .null, .null, .int 0, .null, .null, .null, .null, .int 0, .null, .null, .null, .int 0, .int 0, .int 0, .null])), (q0, .inl (g.2.1 1, 6, .inl (fun _ => 0)))] ++ X) S hE hw 2 inX0 tyX0_ok nmX0 rfl (by decide) kw_89 rfl rfl hin (tyX0_ok 2 (by decide)) rfl rfl 0 rfl (Nat.le_of_ble_eq_true rfl) rfl dX0_init_9 (fun H locs hw => ?_)
  refine lv_aload_n hx hb dX0_init_12 rfl (lv_at hl 0 rfl) ?_
  refine lv_bipush (v := 6) hx hb dX0_init_13 (by decide) ?_
  refine tx_newai S hE hA hw 6 (by decide) (by decide) (by decide) (by decide) (by decide) dX0_init_15 (fun q1 H hw => ?_)
  have hw : WD g A s.heap ([(o, .inr (0, [.int 0, .int 0, .ref q0, .null, .null, .int 0, .null, .null, .null, .null, .int 0, .null, .null, .null, .int 0, .int 0, .int 0, .null])), (q0, .inl (g.2.1 1, 6, .inl (fun _ => 0))), (q1, .inl (g.2.1 1, 6, .inl (fun _ => 0)))] ++ X) H locs := hw
  refine tx_putF (ws' := [(o, .inr (0, [.int 0, .int 0, .ref q0, .ref q1, .null, .int 0, .null, .null, .null, .null, .int 0, .null, .null, .null, .int 0, .int 0, .int 0, .null])), (q0, .inl (g.2.1 1, 6, .inl (fun _ => 0))), (q1, .inl (g.2.1 1, 6, .inl (fun _ => 0)))] ++ X) S hE hw 3 inX0 tyX0_ok nmX0 rfl (by decide) kw_91 rfl rfl hin (tyX0_ok 3 (by decide)) rfl rfl 0 rfl (Nat.le_of_ble_eq_true rfl) rfl dX0_init_17 (fun H locs hw => ?_)
  refine lv_aload_n hx hb dX0_init_20 rfl (lv_at hl 0 rfl) ?_
  refine lv_bipush (v := 6) hx hb dX0_init_21 (by decide) ?_
  refine tx_newai S hE hA hw 6 (by decide) (by decide) (by decide) (by decide) (by decide) dX0_init_23 (fun q2 H hw => ?_)
  have hw : WD g A s.heap ([(o, .inr (0, [.int 0, .int 0, .ref q0, .ref q1, .null, .int 0, .null, .null, .null, .null, .int 0, .null, .null, .null, .int 0, .int 0, .int 0, .null])), (q0, .inl (g.2.1 1, 6, .inl (fun _ => 0))), (q1, .inl (g.2.1 1, 6, .inl (fun _ => 0))), (q2, .inl (g.2.1 1, 6, .inl (fun _ => 0)))] ++ X) H locs := hw
  refine tx_putF (ws' := [(o, .inr (0, [.int 0, .int 0, .ref q0, .ref q1, .ref q2, .int 0, .null, .null, .null, .null, .int 0, .null, .null, .null, .int 0, .int 0, .int 0, .null])), (q0, .inl (g.2.1 1, 6, .inl (fun _ => 0))), (q1, .inl (g.2.1 1, 6, .inl (fun _ => 0))), (q2, .inl (g.2.1 1, 6, .inl (fun _ => 0)))] ++ X) S hE hw 4 inX0 tyX0_ok nmX0 rfl (by decide) kw_94 rfl rfl hin (tyX0_ok 4 (by decide)) rfl rfl 0 rfl (Nat.le_of_ble_eq_true rfl) rfl dX0_init_25 (fun H locs hw => ?_)
  refine lv_aload_n hx hb dX0_init_28 rfl (lv_at hl 0 rfl) ?_
  refine lv_bipush (v := 12) hx hb dX0_init_29 (by decide) ?_
  refine tx_newai S hE hA hw 12 (by decide) (by decide) (by decide) (by decide) (by decide) dX0_init_31 (fun q3 H hw => ?_)
  have hw : WD g A s.heap ([(o, .inr (0, [.int 0, .int 0, .ref q0, .ref q1, .ref q2, .int 0, .null, .null, .null, .null, .int 0, .null, .null, .null, .int 0, .int 0, .int 0, .null])), (q0, .inl (g.2.1 1, 6, .inl (fun _ => 0))), (q1, .inl (g.2.1 1, 6, .inl (fun _ => 0))), (q2, .inl (g.2.1 1, 6, .inl (fun _ => 0))), (q3, .inl (g.2.1 1, 12, .inl (fun _ => 0)))] ++ X) H locs := hw
  refine tx_putF (ws' := [(o, .inr (0, [.int 0, .int 0, .ref q0, .ref q1, .ref q2, .int 0, .ref q3, .null, .null, .null, .int 0, .null, .null, .null, .int 0, .int 0, .int 0, .null])), (q0, .inl (g.2.1 1, 6, .inl (fun _ => 0))), (q1, .inl (g.2.1 1, 6, .inl (fun _ => 0))), (q2, .inl (g.2.1 1, 6, .inl (fun _ => 0))), (q3, .inl (g.2.1 1, 12, .inl (fun _ => 0)))] ++ X) S hE hw 6 inX0 tyX0_ok nmX0 rfl (by decide) kw_102 rfl rfl hin (tyX0_ok 6 (by decide)) rfl rfl 0 rfl (Nat.le_of_ble_eq_true rfl) rfl dX0_init_33 (fun H locs hw => ?_)
  refine lv_aload_n hx hb dX0_init_36 rfl (lv_at hl 0 rfl) ?_
  refine lv_bipush (v := 12) hx hb dX0_init_37 (by decide) ?_
  refine tx_newai S hE hA hw 12 (by decide) (by decide) (by decide) (by decide) (by decide) dX0_init_39 (fun q4 H hw => ?_)
  have hw : WD g A s.heap ([(o, .inr (0, [.int 0, .int 0, .ref q0, .ref q1, .ref q2, .int 0, .ref q3, .null, .null, .null, .int 0, .null, .null, .null, .int 0, .int 0, .int 0, .null])), (q0, .inl (g.2.1 1, 6, .inl (fun _ => 0))), (q1, .inl (g.2.1 1, 6, .inl (fun _ => 0))), (q2, .inl (g.2.1 1, 6, .inl (fun _ => 0))), (q3, .inl (g.2.1 1, 12, .inl (fun _ => 0))), (q4, .inl (g.2.1 1, 12, .inl (fun _ => 0)))] ++ X) H locs := hw
  refine tx_putF (ws' := [(o, .inr (0, [.int 0, .int 0, .ref q0, .ref q1, .ref q2, .int 0, .ref q3, .ref q4, .null, .null, .int 0, .null, .null, .null, .int 0, .int 0, .int 0, .null])), (q0, .inl (g.2.1 1, 6, .inl (fun _ => 0))), (q1, .inl (g.2.1 1, 6, .inl (fun _ => 0))), (q2, .inl (g.2.1 1, 6, .inl (fun _ => 0))), (q3, .inl (g.2.1 1, 12, .inl (fun _ => 0))), (q4, .inl (g.2.1 1, 12, .inl (fun _ => 0)))] ++ X) S hE hw 7 inX0 tyX0_ok nmX0 rfl (by decide) kw_107 rfl rfl hin (tyX0_ok 7 (by decide)) rfl rfl 0 rfl (Nat.le_of_ble_eq_true rfl) rfl dX0_init_41 (fun H locs hw => ?_)
  refine lv_aload_n hx hb dX0_init_44 rfl (lv_at hl 0 rfl) ?_
  refine lv_bipush (v := 12) hx hb dX0_init_45 (by decide) ?_
  refine tx_newai S hE hA hw 12 (by decide) (by decide) (by decide) (by decide) (by decide) dX0_init_47 (fun q5 H hw => ?_)
  have hw : WD g A s.heap ([(o, .inr (0, [.int 0, .int 0, .ref q0, .ref q1, .ref q2, .int 0, .ref q3, .ref q4, .null, .null, .int 0, .null, .null, .null, .int 0, .int 0, .int 0, .null])), (q0, .inl (g.2.1 1, 6, .inl (fun _ => 0))), (q1, .inl (g.2.1 1, 6, .inl (fun _ => 0))), (q2, .inl (g.2.1 1, 6, .inl (fun _ => 0))), (q3, .inl (g.2.1 1, 12, .inl (fun _ => 0))), (q4, .inl (g.2.1 1, 12, .inl (fun _ => 0))), (q5, .inl (g.2.1 1, 12, .inl (fun _ => 0)))] ++ X) H locs := hw
  refine tx_putF (ws' := [(o, .inr (0, [.int 0, .int 0, .ref q0, .ref q1, .ref q2, .int 0, .ref q3, .ref q4, .ref q5, .null, .int 0, .null, .null, .null, .int 0, .int 0, .int 0, .null])), (q0, .inl (g.2.1 1, 6, .inl (fun _ => 0))), (q1, .inl (g.2.1 1, 6, .inl (fun _ => 0))), (q2, .inl (g.2.1 1, 6, .inl (fun _ => 0))), (q3, .inl (g.2.1 1, 12, .inl (fun _ => 0))), (q4, .inl (g.2.1 1, 12, .inl (fun _ => 0))), (q5, .inl (g.2.1 1, 12, .inl (fun _ => 0)))] ++ X) S hE hw 8 inX0 tyX0_ok nmX0 rfl (by decide) kw_111 rfl rfl hin (tyX0_ok 8 (by decide)) rfl rfl 0 rfl (Nat.le_of_ble_eq_true rfl) rfl dX0_init_49 (fun H locs hw => ?_)
  refine lv_aload_n hx hb dX0_init_52 rfl (lv_at hl 0 rfl) ?_
  refine lv_bipush (v := 12) hx hb dX0_init_53 (by decide) ?_
  refine tx_newai S hE hA hw 12 (by decide) (by decide) (by decide) (by decide) (by decide) dX0_init_55 (fun q6 H hw => ?_)
  have hw : WD g A s.heap ([(o, .inr (0, [.int 0, .int 0, .ref q0, .ref q1, .ref q2, .int 0, .ref q3, .ref q4, .ref q5, .null, .int 0, .null, .null, .null, .int 0, .int 0, .int 0, .null])), (q0, .inl (g.2.1 1, 6, .inl (fun _ => 0))), (q1, .inl (g.2.1 1, 6, .inl (fun _ => 0))), (q2, .inl (g.2.1 1, 6, .inl (fun _ => 0))), (q3, .inl (g.2.1 1, 12, .inl (fun _ => 0))), (q4, .inl (g.2.1 1, 12, .inl (fun _ => 0))), (q5, .inl (g.2.1 1, 12, .inl (fun _ => 0))), (q6, .inl (g.2.1 1, 12, .inl (fun _ => 0)))] ++ X) H locs := hw
  refine tx_putF (ws' := [(o, .inr (0, [.int 0, .int 0, .ref q0, .ref q1, .ref q2, .int 0, .ref q3, .ref q4, .ref q5, .ref q6, .int 0, .null, .null, .null, .int 0, .int 0, .int 0, .null])), (q0, .inl (g.2.1 1, 6, .inl (fun _ => 0))), (q1, .inl (g.2.1 1, 6, .inl (fun _ => 0))), (q2, .inl (g.2.1 1, 6, .inl (fun _ => 0))), (q3, .inl (g.2.1 1, 12, .inl (fun _ => 0))), (q4, .inl (g.2.1 1, 12, .inl (fun _ => 0))), (q5, .inl (g.2.1 1, 12, .inl (fun _ => 0))), (q6, .inl (g.2.1 1, 12, .inl (fun _ => 0)))] ++ X) S hE hw 9 inX0 tyX0_ok nmX0 rfl (by decide) kw_115 rfl rfl hin (tyX0_ok 9 (by decide)) rfl rfl 0 rfl (Nat.le_of_ble_eq_true rfl) rfl dX0_init_57 (fun H locs hw => ?_)
  refine lv_aload_n hx hb dX0_init_60 rfl (lv_at hl 0 rfl) ?_
  refine lv_iconst (v := 4) hx hb dX0_init_61 (by decide) ?_
  refine tx_newai S hE hA hw 4 (by decide) (by decide) (by decide) (by decide) (by decide) dX0_init_62 (fun q7 H hw => ?_)
  have hw : WD g A s.heap ([(o, .inr (0, [.int 0, .int 0, .ref q0, .ref q1, .ref q2, .int 0, .ref q3, .ref q4, .ref q5, .ref q6, .int 0, .null, .null, .null, .int 0, .int 0, .int 0, .null])), (q0, .inl (g.2.1 1, 6, .inl (fun _ => 0))), (q1, .inl (g.2.1 1, 6, .inl (fun _ => 0))), (q2, .inl (g.2.1 1, 6, .inl (fun _ => 0))), (q3, .inl (g.2.1 1, 12, .inl (fun _ => 0))), (q4, .inl (g.2.1 1, 12, .inl (fun _ => 0))), (q5, .inl (g.2.1 1, 12, .inl (fun _ => 0))), (q6, .inl (g.2.1 1, 12, .inl (fun _ => 0))), (q7, .inl (g.2.1 1, 4, .inl (fun _ => 0)))] ++ X) H locs := hw
  refine tx_putF (ws' := [(o, .inr (0, [.int 0, .int 0, .ref q0, .ref q1, .ref q2, .int 0, .ref q3, .ref q4, .ref q5, .ref q6, .int 0, .ref q7, .null, .null, .int 0, .int 0, .int 0, .null])), (q0, .inl (g.2.1 1, 6, .inl (fun _ => 0))), (q1, .inl (g.2.1 1, 6, .inl (fun _ => 0))), (q2, .inl (g.2.1 1, 6, .inl (fun _ => 0))), (q3, .inl (g.2.1 1, 12, .inl (fun _ => 0))), (q4, .inl (g.2.1 1, 12, .inl (fun _ => 0))), (q5, .inl (g.2.1 1, 12, .inl (fun _ => 0))), (q6, .inl (g.2.1 1, 12, .inl (fun _ => 0))), (q7, .inl (g.2.1 1, 4, .inl (fun _ => 0)))] ++ X) S hE hw 11 inX0 tyX0_ok nmX0 rfl (by decide) kw_124 rfl rfl hin (tyX0_ok 11 (by decide)) rfl rfl 0 rfl (Nat.le_of_ble_eq_true rfl) rfl dX0_init_64 (fun H locs hw => ?_)
  refine lv_aload_n hx hb dX0_init_67 rfl (lv_at hl 0 rfl) ?_
  refine lv_iconst (v := 4) hx hb dX0_init_68 (by decide) ?_
  refine tx_newai S hE hA hw 4 (by decide) (by decide) (by decide) (by decide) (by decide) dX0_init_69 (fun q8 H hw => ?_)
  have hw : WD g A s.heap ([(o, .inr (0, [.int 0, .int 0, .ref q0, .ref q1, .ref q2, .int 0, .ref q3, .ref q4, .ref q5, .ref q6, .int 0, .ref q7, .null, .null, .int 0, .int 0, .int 0, .null])), (q0, .inl (g.2.1 1, 6, .inl (fun _ => 0))), (q1, .inl (g.2.1 1, 6, .inl (fun _ => 0))), (q2, .inl (g.2.1 1, 6, .inl (fun _ => 0))), (q3, .inl (g.2.1 1, 12, .inl (fun _ => 0))), (q4, .inl (g.2.1 1, 12, .inl (fun _ => 0))), (q5, .inl (g.2.1 1, 12, .inl (fun _ => 0))), (q6, .inl (g.2.1 1, 12, .inl (fun _ => 0))), (q7, .inl (g.2.1 1, 4, .inl (fun _ => 0))), (q8, .inl (g.2.1 1, 4, .inl (fun _ => 0)))] ++ X) H locs := hw
  refine tx_putF (ws' := [(o, .inr (0, [.int 0, .int 0, .ref q0, .ref q1, .ref q2, .int 0, .ref q3, .ref q4, .ref q5, .ref q6, .int 0, .ref q7, .ref q8, .null, .int 0, .int 0, .int 0, .null])), (q0, .inl (g.2.1 1, 6, .inl (fun _ => 0))), (q1, .inl (g.2.1 1, 6, .inl (fun _ => 0))), (q2, .inl (g.2.1 1, 6, .inl (fun _ => 0))), (q3, .inl (g.2.1 1, 12, .inl (fun _ => 0))), (q4, .inl (g.2.1 1, 12, .inl (fun _ => 0))), (q5, .inl (g.2.1 1, 12, .inl (fun _ => 0))), (q6, .inl (g.2.1 1, 12, .inl (fun _ => 0))), (q7, .inl (g.2.1 1, 4, .inl (fun _ => 0))), (q8, .inl (g.2.1 1, 4, .inl (fun _ => 0)))] ++ X) S hE hw 12 inX0 tyX0_ok nmX0 rfl (by decide) kw_126 rfl rfl hin (tyX0_ok 12 (by decide)) rfl rfl 0 rfl (Nat.le_of_ble_eq_true rfl) rfl dX0_init_71 (fun H locs hw => ?_)
  refine lv_aload_n hx hb dX0_init_74 rfl (lv_at hl 0 rfl) ?_
  refine lv_iconst (v := 4) hx hb dX0_init_75 (by decide) ?_
  refine tx_newai S hE hA hw 4 (by decide) (by decide) (by decide) (by decide) (by decide) dX0_init_76 (fun q9 H hw => ?_)
  have hw : WD g A s.heap ([(o, .inr (0, [.int 0, .int 0, .ref q0, .ref q1, .ref q2, .int 0, .ref q3, .ref q4, .ref q5, .ref q6, .int 0, .ref q7, .ref q8, .null, .int 0, .int 0, .int 0, .null])), (q0, .inl (g.2.1 1, 6, .inl (fun _ => 0))), (q1, .inl (g.2.1 1, 6, .inl (fun _ => 0))), (q2, .inl (g.2.1 1, 6, .inl (fun _ => 0))), (q3, .inl (g.2.1 1, 12, .inl (fun _ => 0))), (q4, .inl (g.2.1 1, 12, .inl (fun _ => 0))), (q5, .inl (g.2.1 1, 12, .inl (fun _ => 0))), (q6, .inl (g.2.1 1, 12, .inl (fun _ => 0))), (q7, .inl (g.2.1 1, 4, .inl (fun _ => 0))), (q8, .inl (g.2.1 1, 4, .inl (fun _ => 0))), (q9, .inl (g.2.1 1, 4, .inl (fun _ => 0)))] ++ X) H locs := hw
  refine tx_putF (ws' := [(o, .inr (0, [.int 0, .int 0, .ref q0, .ref q1, .ref q2, .int 0, .ref q3, .ref q4, .ref q5, .ref q6, .int 0, .ref q7, .ref q8, .ref q9, .int 0, .int 0, .int 0, .null])), (q0, .inl (g.2.1 1, 6, .inl (fun _ => 0))), (q1, .inl (g.2.1 1, 6, .inl (fun _ => 0))), (q2, .inl (g.2.1 1, 6, .inl (fun _ => 0))), (q3, .inl (g.2.1 1, 12, .inl (fun _ => 0))), (q4, .inl (g.2.1 1, 12, .inl (fun _ => 0))), (q5, .inl (g.2.1 1, 12, .inl (fun _ => 0))), (q6, .inl (g.2.1 1, 12, .inl (fun _ => 0))), (q7, .inl (g.2.1 1, 4, .inl (fun _ => 0))), (q8, .inl (g.2.1 1, 4, .inl (fun _ => 0))), (q9, .inl (g.2.1 1, 4, .inl (fun _ => 0)))] ++ X) S hE hw 13 inX0 tyX0_ok nmX0 rfl (by decide) kw_129 rfl rfl hin (tyX0_ok 13 (by decide)) rfl rfl 0 rfl (Nat.le_of_ble_eq_true rfl) rfl dX0_init_78 (fun H locs hw => ?_)
  refine lv_aload_n hx hb dX0_init_81 rfl (lv_at hl 0 rfl) ?_
  refine lv_bipush (v := 20) hx hb dX0_init_82 (by decide) ?_
  refine pf_X0_42 (ws' := [(o, .inr (0, [.int 0, .int 0, .ref q0, .ref q1, .ref q2, .int 0, .ref q3, .ref q4, .ref q5, .ref q6, .int 0, .ref q7, .ref q8, .ref q9, .int (20 : Int32), .int 0, .int 0, .null])), (q0, .inl (g.2.1 1, 6, .inl (fun _ => 0))), (q1, .inl (g.2.1 1, 6, .inl (fun _ => 0))), (q2, .inl (g.2.1 1, 6, .inl (fun _ => 0))), (q3, .inl (g.2.1 1, 12, .inl (fun _ => 0))), (q4, .inl (g.2.1 1, 12, .inl (fun _ => 0))), (q5, .inl (g.2.1 1, 12, .inl (fun _ => 0))), (q6, .inl (g.2.1 1, 12, .inl (fun _ => 0))), (q7, .inl (g.2.1 1, 4, .inl (fun _ => 0))), (q8, .inl (g.2.1 1, 4, .inl (fun _ => 0))), (q9, .inl (g.2.1 1, 4, .inl (fun _ => 0)))] ++ X) S hE hw rfl rfl 0 rfl (Nat.le_of_ble_eq_true rfl) rfl dX0_init_84 (fun H locs hw => ?_)
  refine lv_aload_n hx hb dX0_init_87 rfl (lv_at hl 0 rfl) ?_
  refine lv_iconst (v := 5) hx hb dX0_init_88 (by decide) ?_
  refine pf_X0_46 (ws' := [(o, .inr (0, [.int 0, .int 0, .ref q0, .ref q1, .ref q2, .int 0, .ref q3, .ref q4, .ref q5, .ref q6, .int 0, .ref q7, .ref q8, .ref q9, .int (20 : Int32), .int (5 : Int32), .int 0, .null])), (q0, .inl (g.2.1 1, 6, .inl (fun _ => 0))), (q1, .inl (g.2.1 1, 6, .inl (fun _ => 0))), (q2, .inl (g.2.1 1, 6, .inl (fun _ => 0))), (q3, .inl (g.2.1 1, 12, .inl (fun _ => 0))), (q4, .inl (g.2.1 1, 12, .inl (fun _ => 0))), (q5, .inl (g.2.1 1, 12, .inl (fun _ => 0))), (q6, .inl (g.2.1 1, 12, .inl (fun _ => 0))), (q7, .inl (g.2.1 1, 4, .inl (fun _ => 0))), (q8, .inl (g.2.1 1, 4, .inl (fun _ => 0))), (q9, .inl (g.2.1 1, 4, .inl (fun _ => 0)))] ++ X) S hE hw rfl rfl 0 rfl (Nat.le_of_ble_eq_true rfl) rfl dX0_init_89 (fun H locs hw => ?_)
  refine lv_aload_n hx hb dX0_init_92 rfl (lv_at hl 0 rfl) ?_
  refine tx_new (ci := 5) (fs := [.null, .null, .null, .null, .null, .int 0]) S hE hA hw inX5 tyX5 tyX5_ok kw_52 kw_53 kw_4 rfl (fun j hj => by match j, hj with | 0, _ => rfl | 1, _ => rfl | 2, _ => rfl | 3, _ => rfl | 4, _ => rfl | 5, _ => rfl | k + 6, h => exact absurd h (by omega)) (by decide) (by decide) dX0_init_93 (fun q10 H hw => ?_)
  refine lv_dup hx hb dX0_init_96 rfl ?_
  refine tx_mkN (n := 0) S hE hA hw (k_X5_init (o := q10)) kw_54 kw_56 kw_4 ⟨by decide +kernel, by decide +kernel, by decide +kernel⟩ kw_55 rfl rfl hl.1 (rest := [.ref q10, .ref o]) rfl (Nat.le_of_ble_eq_true rfl) ⟨by decide, by decide⟩ dX0_init_97 ⟨by decide, by decide⟩ (fun ad11 H locs had11 hw => ?_)
  have hw : WD g A s.heap (cl_X5 g (ad11 0) i_X5_u i_X5_v ++ ([(o, .inr (0, [.int 0, .int 0, .ref q0, .ref q1, .ref q2, .int 0, .ref q3, .ref q4, .ref q5, .ref q6, .int 0, .ref q7, .ref q8, .ref q9, .int (20 : Int32), .int (5 : Int32), .int 0, .null])), (q0, .inl (g.2.1 1, 6, .inl (fun _ => 0))), (q1, .inl (g.2.1 1, 6, .inl (fun _ => 0))), (q2, .inl (g.2.1 1, 6, .inl (fun _ => 0))), (q3, .inl (g.2.1 1, 12, .inl (fun _ => 0))), (q4, .inl (g.2.1 1, 12, .inl (fun _ => 0))), (q5, .inl (g.2.1 1, 12, .inl (fun _ => 0))), (q6, .inl (g.2.1 1, 12, .inl (fun _ => 0))), (q7, .inl (g.2.1 1, 4, .inl (fun _ => 0))), (q8, .inl (g.2.1 1, 4, .inl (fun _ => 0))), (q9, .inl (g.2.1 1, 4, .inl (fun _ => 0)))] ++ X)) H locs := hw
  rw [← had11]
  refine tx_putF (ws' := cl_X5 g (ad11 0) i_X5_u i_X5_v ++ ([(o, .inr (0, [.int 0, .int 0, .ref q0, .ref q1, .ref q2, .int 0, .ref q3, .ref q4, .ref q5, .ref q6, .int 0, .ref q7, .ref q8, .ref q9, .int (20 : Int32), .int (5 : Int32), .int 0, .ref (ad11 0 0)])), (q0, .inl (g.2.1 1, 6, .inl (fun _ => 0))), (q1, .inl (g.2.1 1, 6, .inl (fun _ => 0))), (q2, .inl (g.2.1 1, 6, .inl (fun _ => 0))), (q3, .inl (g.2.1 1, 12, .inl (fun _ => 0))), (q4, .inl (g.2.1 1, 12, .inl (fun _ => 0))), (q5, .inl (g.2.1 1, 12, .inl (fun _ => 0))), (q6, .inl (g.2.1 1, 12, .inl (fun _ => 0))), (q7, .inl (g.2.1 1, 4, .inl (fun _ => 0))), (q8, .inl (g.2.1 1, 4, .inl (fun _ => 0))), (q9, .inl (g.2.1 1, 4, .inl (fun _ => 0)))] ++ X)) S hE hw 17 inX0 tyX0_ok nmX0 rfl (by decide) kw_143 rfl rfl hin (tyX0_ok 17 (by decide)) rfl rfl 6 rfl (Nat.le_of_ble_eq_true rfl) rfl dX0_init_100 (fun H locs hw => ?_)
  have hw := hw.u1
  obtain ⟨a_T, hw, ho⟩ : ∃ a_T : Nat → Nat, WD g A s.heap (cl_X0 g a_T (ad11 0 0) i_X0_u ++ (cl_X5 g (ad11 0) i_X5_u i_X5_v ++ X)) H locs ∧ a_T 0 = o := ⟨fun k => [o, 0, 0, q0, q1, q2, 0, q3, q4, q5, q6, 0, q7, q8, q9, 0, 0, 0, 0].getD k 0, hw, rfl⟩
  exact tx_vretC S hr hlk (fun i => [a_T, ad11 0].getD i (fun _ => 0)) ho hw (by decide) (by decide) dX0_init_103
def i_X8_u : S32 := fun _ _ => 0
set_option maxHeartbeats 4000000 in
set_option maxRecDepth 100000 in
theorem k_X8_init {l : Launch} {g : GG} {A : Nat → Prop} {X : va_W} {o : Nat} {b1 : Nat} : MK l yX8_init cX8_init 2 1 0 0 g A ([(o, .inr (8, [.null, .int 0, .int 0, .int 0, .int 0, .int 0]))] ++ X) [.ref o, .ref b1] o (fun ad => cl_X8 g (ad 0) b1 i_X8_u ++ X) := by
  refine tx_startC (av := [.ref o, .ref b1]) (by decide) rfl (Nat.le_of_ble_eq_true rfl) ?_
  intro p e s m below meth c ls S hr hlk hin hE hA hw hl
  have S : CallFix p m c cX8_init 2 s (List.toArray [.ref o, .ref b1]) (Cond.code yX8_init cX8_init 2 none :: allW) RX8 := S
  have hx := S.1
  have hb := S.2.1
  generalize hL0 : ([] : List Loc) = locs at hw ⊢
  have hl : lv_has ls 2 [(0, .ref o), (1, .ref b1)] := hl
  refine lv_aload_n hx hb dX8_init_0 rfl (lv_at hl 0 rfl) ?_
  refine tx_objInit S kw_194 hl.1 (by decide) (Nat.le_of_ble_eq_true rfl) dX8_init_1 ?_
  refine lv_aload_n hx hb dX8_init_4 rfl (lv_at hl 0 rfl) ?_
  refine lv_aload_n hx hb dX8_init_5 rfl (lv_at hl 1 rfl) ?_
  refine tx_putF (ws' := [(o, .inr (8, [.ref b1, .int 0, .int 0, .int 0, .int 0, .int 0]))] ++ X) S hE hw 0 inX8 tyX8_ok nmX8 rfl (by decide) kw_195 rfl rfl hin (tyX8_ok 0 (by decide)) rfl rfl 0 rfl (Nat.le_of_ble_eq_true rfl) rfl dX8_init_6 (fun H locs hw => ?_)
  obtain ⟨a_T, hw, ho⟩ : ∃ a_T : Nat → Nat, WD g A s.heap (cl_X8 g a_T b1 i_X8_u ++ X) H locs ∧ a_T 0 = o := ⟨fun k => [o, 0, 0, 0, 0, 0, 0].getD k 0, hw, rfl⟩
  exact tx_vretC S hr hlk (fun i => [a_T].getD i (fun _ => 0)) ho hw (by decide) (by decide) dX8_init_9
def i_X4_u : S32 := fun _ _ => 0
set_option maxHeartbeats 4000000 in
set_option maxRecDepth 100000 in
theorem k_X4_init {l : Launch} {g : GG} {A : Nat → Prop} {X : va_W} {o : Nat} {b1 : Nat} {b2 : Nat} : MK l yX4_init cX4_init 3 1 2 81 g A ([(o, .inr (4, [.null, .null, .int 0, .null, .int 0, .int 0, .int 0, .int 0, .null]))] ++ X) [.ref o, .ref b1, .ref b2] o (fun ad => cl_X4 g (ad 0) b1 b2 i_X4_u ++ X) := by
  refine tx_startC (av := [.ref o, .ref b1, .ref b2]) (by decide) rfl (Nat.le_of_ble_eq_true rfl) ?_
  intro p e s m below meth c ls S hr hlk hin hE hA hw hl
  have S : CallFix p m c cX4_init 3 s (List.toArray [.ref o, .ref b1, .ref b2]) (Cond.code yX4_init cX4_init 3 none :: allW) RX4 := S
  have hx := S.1
  have hb := S.2.1
  generalize hL0 : ([] : List Loc) = locs at hw ⊢
  have hl : lv_has ls 3 [(0, .ref o), (1, .ref b1), (2, .ref b2)] := hl
  refine lv_aload_n hx hb dX4_init_0 rfl (lv_at hl 0 rfl) ?_
  refine tx_objInit S kw_224 hl.1 (by decide) (Nat.le_of_ble_eq_true rfl) dX4_init_1 ?_
  refine lv_aload_n hx hb dX4_init_4 rfl (lv_at hl 0 rfl) ?_
  refine lv_bipush (v := 72) hx hb dX4_init_5 (by decide) ?_
  refine tx_newai S hE hA hw 72 (by decide) (by decide) (by decide) (by decide) (by decide) dX4_init_7 (fun q0 H hw => ?_)
  have hw : WD g A s.heap ([(o, .inr (4, [.null, .null, .int 0, .null, .int 0, .int 0, .int 0, .int 0, .null])), (q0, .inl (g.2.1 1, 72, .inl (fun _ => 0)))] ++ X) H locs := hw
  refine tx_putF (ws' := [(o, .inr (4, [.null, .ref q0, .int 0, .null, .int 0, .int 0, .int 0, .int 0, .null])), (q0, .inl (g.2.1 1, 72, .inl (fun _ => 0)))] ++ X) S hE hw 1 inX4 tyX4_ok nmX4 rfl (by decide) kw_226 rfl rfl hin (tyX4_ok 1 (by decide)) rfl rfl 0 rfl (Nat.le_of_ble_eq_true rfl) rfl dX4_init_9 (fun H locs hw => ?_)
  refine lv_aload_n hx hb dX4_init_12 rfl (lv_at hl 0 rfl) ?_
  refine lv_bipush (v := 9) hx hb dX4_init_13 (by decide) ?_
  refine tx_newaz S hE hA hw 9 (by decide) (by decide) (by decide) (by decide) (by decide) dX4_init_15 (fun q1 H hw => ?_)
  have hw : WD g A s.heap ([(o, .inr (4, [.null, .ref q0, .int 0, .null, .int 0, .int 0, .int 0, .int 0, .null])), (q0, .inl (g.2.1 1, 72, .inl (fun _ => 0))), (q1, .inl (g.2.1 3, 9, .inl (fun _ => 0)))] ++ X) H locs := hw
  refine tx_putF (ws' := [(o, .inr (4, [.null, .ref q0, .int 0, .ref q1, .int 0, .int 0, .int 0, .int 0, .null])), (q0, .inl (g.2.1 1, 72, .inl (fun _ => 0))), (q1, .inl (g.2.1 3, 9, .inl (fun _ => 0)))] ++ X) S hE hw 3 inX4 tyX4_ok nmX4 rfl (by decide) kw_228 rfl rfl hin (tyX4_ok 3 (by decide)) rfl rfl 0 rfl (Nat.le_of_ble_eq_true rfl) rfl dX4_init_17 (fun H locs hw => ?_)
  refine lv_aload_n hx hb dX4_init_20 rfl (lv_at hl 0 rfl) ?_
  refine lv_aload_n hx hb dX4_init_21 rfl (lv_at hl 1 rfl) ?_
  refine tx_putF (ws' := [(o, .inr (4, [.ref b1, .ref q0, .int 0, .ref q1, .int 0, .int 0, .int 0, .int 0, .null])), (q0, .inl (g.2.1 1, 72, .inl (fun _ => 0))), (q1, .inl (g.2.1 3, 9, .inl (fun _ => 0)))] ++ X) S hE hw 0 inX4 tyX4_ok nmX4 rfl (by decide) kw_225 rfl rfl hin (tyX4_ok 0 (by decide)) rfl rfl 0 rfl (Nat.le_of_ble_eq_true rfl) rfl dX4_init_22 (fun H locs hw => ?_)
  refine lv_aload_n hx hb dX4_init_25 rfl (lv_at hl 0 rfl) ?_
  refine lv_aload_n hx hb dX4_init_26 rfl (lv_at hl 2 rfl) ?_
  refine pf_X4_25 (ws' := [(o, .inr (4, [.ref b1, .ref q0, .int 0, .ref q1, .int 0, .int 0, .int 0, .int 0, .ref b2])), (q0, .inl (g.2.1 1, 72, .inl (fun _ => 0))), (q1, .inl (g.2.1 3, 9, .inl (fun _ => 0)))] ++ X) S hE hw rfl rfl 0 rfl (Nat.le_of_ble_eq_true rfl) rfl dX4_init_27 (fun H locs hw => ?_)
  obtain ⟨a_T, hw, ho⟩ : ∃ a_T : Nat → Nat, WD g A s.heap (cl_X4 g a_T b1 b2 i_X4_u ++ X) H locs ∧ a_T 0 = o := ⟨fun k => [o, 0, q0, 0, q1, 0, 0, 0, 0, 0].getD k 0, hw, rfl⟩
  exact tx_vretC S hr hlk (fun i => [a_T].getD i (fun _ => 0)) ho hw (by decide) (by decide) dX4_init_30
def i_X7_u : S32 := up2 (up2 (fun _ _ => 0) 0 2 (0 : Int32)) 0 3 (-1 : Int32)
set_option maxHeartbeats 4000000 in
set_option maxRecDepth 100000 in
theorem k_X7_init {l : Launch} {g : GG} {A : Nat → Prop} {X : va_W} {o : Nat} {b1 : Nat} {a_2 : Nat → Nat} {p_2 : Nat} {u_2 : S32} : MK l yX7_init cX7_init 3 2 4 96 g A ([(o, .inr (7, [.null, .null, .int 0, .int 0, .null, .int 0, .int 0]))] ++ (cl_X0 g a_2 p_2 u_2 ++ X)) [.ref o, .ref b1, .ref (a_2 0)] o (fun ad => cl_X7 g (ad 0) (ad 2 0) (ad 1 0) (a_2 0) i_X7_u ++ (cl_X4 g (ad 1) (ad 2 0) p_2 i_X4_u ++ (cl_X8 g (ad 2) b1 i_X8_u ++ (cl_X0 g a_2 p_2 u_2 ++ X)))) := by
  refine tx_startC (av := [.ref o, .ref b1, .ref (a_2 0)]) (by decide) rfl (Nat.le_of_ble_eq_true rfl) ?_
  intro p e s m below meth c ls S hr hlk hin hE hA hw hl
  have S : CallFix p m c cX7_init 3 s (List.toArray [.ref o, .ref b1, .ref (a_2 0)]) (Cond.code yX7_init cX7_init 3 none :: allW) RX7 := S
  have hx := S.1
  have hb := S.2.1
  generalize hL0 : ([] : List Loc) = locs at hw ⊢
  have hl : lv_has ls 3 [(0, .ref o), (1, .ref b1), (2, .ref (a_2 0))] := hl
  refine lv_aload_n hx hb dX7_init_0 rfl (lv_at hl 0 rfl) ?_
  refine tx_objInit S kw_188 hl.1 (by decide) (Nat.le_of_ble_eq_true rfl) dX7_init_1 ?_
  refine lv_aload_n hx hb dX7_init_4 rfl (lv_at hl 0 rfl) ?_
  refine lv_iconst (v := 0) hx hb dX7_init_5 (by decide) ?_
  refine pf_X7_9 (ws' := [(o, .inr (7, [.null, .null, .int (0 : Int32), .int 0, .null, .int 0, .int 0]))] ++ (cl_X0 g a_2 p_2 u_2 ++ X)) S hE hw rfl rfl 0 rfl (Nat.le_of_ble_eq_true rfl) rfl dX7_init_6 (fun H locs hw => ?_)
  refine lv_aload_n hx hb dX7_init_9 rfl (lv_at hl 0 rfl) ?_
  refine lv_iconst (v := -1) hx hb dX7_init_10 (by decide) ?_
  refine pf_X7_15 (ws' := [(o, .inr (7, [.null, .null, .int (0 : Int32), .int (-1 : Int32), .null, .int 0, .int 0]))] ++ (cl_X0 g a_2 p_2 u_2 ++ X)) S hE hw rfl rfl 0 rfl (Nat.le_of_ble_eq_true rfl) rfl dX7_init_11 (fun H locs hw => ?_)
  refine lv_aload_n hx hb dX7_init_14 rfl (lv_at hl 0 rfl) ?_
  refine tx_new (ci := 8) (fs := [.null, .int 0, .int 0, .int 0, .int 0, .int 0]) S hE hA hw inX8 tyX8 tyX8_ok kw_189 kw_190 kw_6 rfl (fun j hj => by match j, hj with | 0, _ => rfl | 1, _ => rfl | 2, _ => rfl | 3, _ => rfl | 4, _ => rfl | 5, _ => rfl | k + 6, h => exact absurd h (by omega)) (by decide) (by decide) dX7_init_15 (fun q0 H hw => ?_)
  refine lv_dup hx hb dX7_init_18 rfl ?_
  refine lv_aload_n hx hb dX7_init_19 rfl (lv_at hl 1 rfl) ?_
  refine tx_mkN (n := 1) S hE hA hw (k_X8_init (o := q0) (b1 := b1)) kw_191 kw_193 kw_6 ⟨by decide +kernel, by decide +kernel, by decide +kernel⟩ kw_192 rfl rfl hl.1 (rest := [.ref q0, .ref o]) rfl (Nat.le_of_ble_eq_true rfl) ⟨by decide, by decide⟩ dX7_init_20 ⟨by decide, by decide⟩ (fun ad1 H locs had1 hw => ?_)
  have hw : WD g A s.heap (cl_X8 g (ad1 0) b1 i_X8_u ++ ([(o, .inr (7, [.null, .null, .int (0 : Int32), .int (-1 : Int32), .null, .int 0, .int 0]))] ++ (cl_X0 g a_2 p_2 u_2 ++ X))) H locs := hw
  rw [← had1]
  refine tx_putF (ws' := cl_X8 g (ad1 0) b1 i_X8_u ++ ([(o, .inr (7, [.ref (ad1 0 0), .null, .int (0 : Int32), .int (-1 : Int32), .null, .int 0, .int 0]))] ++ (cl_X0 g a_2 p_2 u_2 ++ X))) S hE hw 0 inX7 tyX7_ok nmX7 rfl (by decide) kw_254 rfl rfl hin (tyX7_ok 0 (by decide)) rfl rfl 1 rfl (Nat.le_of_ble_eq_true rfl) rfl dX7_init_23 (fun H locs hw => ?_)
  refine lv_aload_n hx hb dX7_init_26 rfl (lv_at hl 0 rfl) ?_
  refine tx_new (ci := 4) (fs := [.null, .null, .int 0, .null, .int 0, .int 0, .int 0, .int 0, .null]) S hE hA hw inX4 tyX4 tyX4_ok kw_219 kw_220 kw_7 rfl (fun j hj => by match j, hj with | 0, _ => rfl | 1, _ => rfl | 2, _ => rfl | 3, _ => rfl | 4, _ => rfl | 5, _ => rfl | 6, _ => rfl | 7, _ => rfl | 8, _ => rfl | k + 9, h => exact absurd h (by omega)) (by decide) (by decide) dX7_init_27 (fun q2 H hw => ?_)
  refine lv_dup hx hb dX7_init_30 rfl ?_
  refine lv_aload_n hx hb dX7_init_31 rfl (lv_at hl 0 rfl) ?_
  refine gf_X7_23 S hE hw 2 rfl rfl dX7_init_32 ?_
  refine lv_aload_n hx hb dX7_init_35 rfl (lv_at hl 2 rfl) ?_
  refine gf_X7_29 S hE hw 3 rfl rfl dX7_init_36 ?_
  refine tx_mkN (n := 2) S hE hA hw (k_X4_init (o := q2) (b1 := (ad1 0 0)) (b2 := p_2)) kw_221 kw_223 kw_7 ⟨by decide +kernel, by decide +kernel, by decide +kernel⟩ kw_222 rfl rfl hl.1 (rest := [.ref q2, .ref o]) rfl (Nat.le_of_ble_eq_true rfl) ⟨by decide, by decide⟩ dX7_init_39 ⟨by decide, by decide⟩ (fun ad3 H locs had3 hw => ?_)
  have hw : WD g A s.heap (cl_X4 g (ad3 0) (ad1 0 0) p_2 i_X4_u ++ (cl_X8 g (ad1 0) b1 i_X8_u ++ ([(o, .inr (7, [.ref (ad1 0 0), .null, .int (0 : Int32), .int (-1 : Int32), .null, .int 0, .int 0]))] ++ (cl_X0 g a_2 p_2 u_2 ++ X)))) H locs := hw
  rw [← had3]
  refine tx_putF (ws' := cl_X4 g (ad3 0) (ad1 0 0) p_2 i_X4_u ++ (cl_X8 g (ad1 0) b1 i_X8_u ++ ([(o, .inr (7, [.ref (ad1 0 0), .ref (ad3 0 0), .int (0 : Int32), .int (-1 : Int32), .null, .int 0, .int 0]))] ++ (cl_X0 g a_2 p_2 u_2 ++ X)))) S hE hw 1 inX7 tyX7_ok nmX7 rfl (by decide) kw_255 rfl rfl hin (tyX7_ok 1 (by decide)) rfl rfl 4 rfl (Nat.le_of_ble_eq_true rfl) rfl dX7_init_42 (fun H locs hw => ?_)
  refine lv_aload_n hx hb dX7_init_45 rfl (lv_at hl 0 rfl) ?_
  refine lv_aload_n hx hb dX7_init_46 rfl (lv_at hl 2 rfl) ?_
  refine pf_X7_42 (ws' := cl_X4 g (ad3 0) (ad1 0 0) p_2 i_X4_u ++ (cl_X8 g (ad1 0) b1 i_X8_u ++ ([(o, .inr (7, [.ref (ad1 0 0), .ref (ad3 0 0), .int (0 : Int32), .int (-1 : Int32), .ref (a_2 0), .int 0, .int 0]))] ++ (cl_X0 g a_2 p_2 u_2 ++ X)))) S hE hw rfl rfl 4 rfl (Nat.le_of_ble_eq_true rfl) rfl dX7_init_47 (fun H locs hw => ?_)
  have hw := hw.u2
  obtain ⟨a_T, hw, ho⟩ : ∃ a_T : Nat → Nat, WD g A s.heap (cl_X7 g a_T (ad1 0 0) (ad3 0 0) (a_2 0) i_X7_u ++ (cl_X4 g (ad3 0) (ad1 0 0) p_2 i_X4_u ++ (cl_X8 g (ad1 0) b1 i_X8_u ++ (cl_X0 g a_2 p_2 u_2 ++ X)))) H locs ∧ a_T 0 = o := ⟨fun k => [o, 0, 0, 0, 0, 0, 0, 0].getD k 0, hw, rfl⟩
  exact tx_vretC S hr hlk (fun i => [a_T, ad3 0, ad1 0].getD i (fun _ => 0)) ho hw (by decide) (by decide) dX7_init_50
def i_X10_u : S32 := fun _ _ => 0
set_option maxHeartbeats 4000000 in
set_option maxRecDepth 100000 in
theorem k_X10_init {l : Launch} {g : GG} {A : Nat → Prop} {X : va_W} {o : Nat} {b1 : Nat} : MK l yX10_init cX10_init 2 1 12 87 g A ([(o, .inr (10, [.null, .int 0, .int 0, .int 0, .null, .null, .null, .null, .null, .null, .null, .null, .null, .null, .null, .int 0, .null]))] ++ X) [.ref o, .ref b1] o (fun ad => cl_X10 g (ad 0) b1 (ad 1 0) i_X10_u ++ (cl_N g (ad 1) (fun _ _ => 0) ++ X)) := by
  refine tx_startC (av := [.ref o, .ref b1]) (by decide) rfl (Nat.le_of_ble_eq_true rfl) ?_
  intro p e s m below meth c ls S hr hlk hin hE hA hw hl
  have S : CallFix p m c cX10_init 2 s (List.toArray [.ref o, .ref b1]) (Cond.code yX10_init cX10_init 2 none :: allW) RX10 := S
  have hx := S.1
  have hb := S.2.1
  generalize hL0 : ([] : List Loc) = locs at hw ⊢
  have hl : lv_has ls 2 [(0, .ref o), (1, .ref b1)] := hl
  refine lv_aload_n hx hb dX10_init_0 rfl (lv_at hl 0 rfl) ?_
  refine tx_objInit S kw_283 hl.1 (by decide) (Nat.le_of_ble_eq_true rfl) dX10_init_1 ?_
  refine lv_aload_n hx hb dX10_init_4 rfl (lv_at hl 0 rfl) ?_
  refine lv_bipush (v := 6) hx hb dX10_init_5 (by decide) ?_
  refine tx_newai S hE hA hw 6 (by decide) (by decide) (by decide) (by decide) (by decide) dX10_init_7 (fun q0 H hw => ?_)
  have hw : WD g A s.heap ([(o, .inr (10, [.null, .int 0, .int 0, .int 0, .null, .null, .null, .null, .null, .null, .null, .null, .null, .null, .null, .int 0, .null])), (q0, .inl (g.2.1 1, 6, .inl (fun _ => 0)))] ++ X) H locs := hw
  refine tx_putF (ws' := [(o, .inr (10, [.null, .int 0, .int 0, .int 0, .ref q0, .null, .null, .null, .null, .null, .null, .null, .null, .null, .null, .int 0, .null])), (q0, .inl (g.2.1 1, 6, .inl (fun _ => 0)))] ++ X) S hE hw 4 inX10 tyX10_ok nmX10 rfl (by decide) kw_296 rfl rfl hin (tyX10_ok 4 (by decide)) rfl rfl 0 rfl (Nat.le_of_ble_eq_true rfl) rfl dX10_init_9 (fun H locs hw => ?_)
  refine lv_aload_n hx hb dX10_init_12 rfl (lv_at hl 0 rfl) ?_
  refine lv_bipush (v := 6) hx hb dX10_init_13 (by decide) ?_
  refine tx_newai S hE hA hw 6 (by decide) (by decide) (by decide) (by decide) (by decide) dX10_init_15 (fun q1 H hw => ?_)
  have hw : WD g A s.heap ([(o, .inr (10, [.null, .int 0, .int 0, .int 0, .ref q0, .null, .null, .null, .null, .null, .null, .null, .null, .null, .null, .int 0, .null])), (q0, .inl (g.2.1 1, 6, .inl (fun _ => 0))), (q1, .inl (g.2.1 1, 6, .inl (fun _ => 0)))] ++ X) H locs := hw
  refine tx_putF (ws' := [(o, .inr (10, [.null, .int 0, .int 0, .int 0, .ref q0, .ref q1, .null, .null, .null, .null, .null, .null, .null, .null, .null, .int 0, .null])), (q0, .inl (g.2.1 1, 6, .inl (fun _ => 0))), (q1, .inl (g.2.1 1, 6, .inl (fun _ => 0)))] ++ X) S hE hw 5 inX10 tyX10_ok nmX10 rfl (by decide) kw_300 rfl rfl hin (tyX10_ok 5 (by decide)) rfl rfl 0 rfl (Nat.le_of_ble_eq_true rfl) rfl dX10_init_17 (fun H locs hw => ?_)
  refine lv_aload_n hx hb dX10_init_20 rfl (lv_at hl 0 rfl) ?_
  refine lv_bipush (v := 6) hx hb dX10_init_21 (by decide) ?_
  refine tx_newai S hE hA hw 6 (by decide) (by decide) (by decide) (by decide) (by decide) dX10_init_23 (fun q2 H hw => ?_)
  have hw : WD g A s.heap ([(o, .inr (10, [.null, .int 0, .int 0, .int 0, .ref q0, .ref q1, .null, .null, .null, .null, .null, .null, .null, .null, .null, .int 0, .null])), (q0, .inl (g.2.1 1, 6, .inl (fun _ => 0))), (q1, .inl (g.2.1 1, 6, .inl (fun _ => 0))), (q2, .inl (g.2.1 1, 6, .inl (fun _ => 0)))] ++ X) H locs := hw
  refine tx_putF (ws' := [(o, .inr (10, [.null, .int 0, .int 0, .int 0, .ref q0, .ref q1, .ref q2, .null, .null, .null, .null, .null, .null, .null, .null, .int 0, .null])), (q0, .inl (g.2.1 1, 6, .inl (fun _ => 0))), (q1, .inl (g.2.1 1, 6, .inl (fun _ => 0))), (q2, .inl (g.2.1 1, 6, .inl (fun _ => 0)))] ++ X) S hE hw 6 inX10 tyX10_ok nmX10 rfl (by decide) kw_303 rfl rfl hin (tyX10_ok 6 (by decide)) rfl rfl 0 rfl (Nat.le_of_ble_eq_true rfl) rfl dX10_init_25 (fun H locs hw => ?_)
  refine lv_aload_n hx hb dX10_init_28 rfl (lv_at hl 0 rfl) ?_
  refine lv_bipush (v := 6) hx hb dX10_init_29 (by decide) ?_
  refine tx_newai S hE hA hw 6 (by decide) (by decide) (by decide) (by decide) (by decide) dX10_init_31 (fun q3 H hw => ?_)
  have hw : WD g A s.heap ([(o, .inr (10, [.null, .int 0, .int 0, .int 0, .ref q0, .ref q1, .ref q2, .null, .null, .null, .null, .null, .null, .null, .null, .int 0, .null])), (q0, .inl (g.2.1 1, 6, .inl (fun _ => 0))), (q1, .inl (g.2.1 1, 6, .inl (fun _ => 0))), (q2, .inl (g.2.1 1, 6, .inl (fun _ => 0))), (q3, .inl (g.2.1 1, 6, .inl (fun _ => 0)))] ++ X) H locs := hw
  refine tx_putF (ws' := [(o, .inr (10, [.null, .int 0, .int 0, .int 0, .ref q0, .ref q1, .ref q2, .ref q3, .null, .null, .null, .null, .null, .null, .null, .int 0, .null])), (q0, .inl (g.2.1 1, 6, .inl (fun _ => 0))), (q1, .inl (g.2.1 1, 6, .inl (fun _ => 0))), (q2, .inl (g.2.1 1, 6, .inl (fun _ => 0))), (q3, .inl (g.2.1 1, 6, .inl (fun _ => 0)))] ++ X) S hE hw 7 inX10 tyX10_ok nmX10 rfl (by decide) kw_306 rfl rfl hin (tyX10_ok 7 (by decide)) rfl rfl 0 rfl (Nat.le_of_ble_eq_true rfl) rfl dX10_init_33 (fun H locs hw => ?_)
  refine lv_aload_n hx hb dX10_init_36 rfl (lv_at hl 0 rfl) ?_
  refine lv_bipush (v := 6) hx hb dX10_init_37 (by decide) ?_
  refine tx_newai S hE hA hw 6 (by decide) (by decide) (by decide) (by decide) (by decide) dX10_init_39 (fun q4 H hw => ?_)
  have hw : WD g A s.heap ([(o, .inr (10, [.null, .int 0, .int 0, .int 0, .ref q0, .ref q1, .ref q2, .ref q3, .null, .null, .null, .null, .null, .null, .null, .int 0, .null])), (q0, .inl (g.2.1 1, 6, .inl (fun _ => 0))), (q1, .inl (g.2.1 1, 6, .inl (fun _ => 0))), (q2, .inl (g.2.1 1, 6, .inl (fun _ => 0))), (q3, .inl (g.2.1 1, 6, .inl (fun _ => 0))), (q4, .inl (g.2.1 1, 6, .inl (fun _ => 0)))] ++ X) H locs := hw
  refine tx_putF (ws' := [(o, .inr (10, [.null, .int 0, .int 0, .int 0, .ref q0, .ref q1, .ref q2, .ref q3, .ref q4, .null, .null, .null, .null, .null, .null, .int 0, .null])), (q0, .inl (g.2.1 1, 6, .inl (fun _ => 0))), (q1, .inl (g.2.1 1, 6, .inl (fun _ => 0))), (q2, .inl (g.2.1 1, 6, .inl (fun _ => 0))), (q3, .inl (g.2.1 1, 6, .inl (fun _ => 0))), (q4, .inl (g.2.1 1, 6, .inl (fun _ => 0)))] ++ X) S hE hw 8 inX10 tyX10_ok nmX10 rfl (by decide) kw_309 rfl rfl hin (tyX10_ok 8 (by decide)) rfl rfl 0 rfl (Nat.le_of_ble_eq_true rfl) rfl dX10_init_41 (fun H locs hw => ?_)
  refine lv_aload_n hx hb dX10_init_44 rfl (lv_at hl 0 rfl) ?_
  refine lv_bipush (v := 6) hx hb dX10_init_45 (by decide) ?_
  refine tx_newai S hE hA hw 6 (by decide) (by decide) (by decide) (by decide) (by decide) dX10_init_47 (fun q5 H hw => ?_)
  have hw : WD g A s.heap ([(o, .inr (10, [.null, .int 0, .int 0, .int 0, .ref q0, .ref q1, .ref q2, .ref q3, .ref q4, .null, .null, .null, .null, .null, .null, .int 0, .null])), (q0, .inl (g.2.1 1, 6, .inl (fun _ => 0))), (q1, .inl (g.2.1 1, 6, .inl (fun _ => 0))), (q2, .inl (g.2.1 1, 6, .inl (fun _ => 0))), (q3, .inl (g.2.1 1, 6, .inl (fun _ => 0))), (q4, .inl (g.2.1 1, 6, .inl (fun _ => 0))), (q5, .inl (g.2.1 1, 6, .inl (fun _ => 0)))] ++ X) H locs := hw
  refine tx_putF (ws' := [(o, .inr (10, [.null, .int 0, .int 0, .int 0, .ref q0, .ref q1, .ref q2, .ref q3, .ref q4, .ref q5, .null, .null, .null, .null, .null, .int 0, .null])), (q0, .inl (g.2.1 1, 6, .inl (fun _ => 0))), (q1, .inl (g.2.1 1, 6, .inl (fun _ => 0))), (q2, .inl (g.2.1 1, 6, .inl (fun _ => 0))), (q3, .inl (g.2.1 1, 6, .inl (fun _ => 0))), (q4, .inl (g.2.1 1, 6, .inl (fun _ => 0))), (q5, .inl (g.2.1 1, 6, .inl (fun _ => 0)))] ++ X) S hE hw 9 inX10 tyX10_ok nmX10 rfl (by decide) kw_313 rfl rfl hin (tyX10_ok 9 (by decide)) rfl rfl 0 rfl (Nat.le_of_ble_eq_true rfl) rfl dX10_init_49 (fun H locs hw => ?_)
  refine lv_aload_n hx hb dX10_init_52 rfl (lv_at hl 0 rfl) ?_
  refine lv_bipush (v := 12) hx hb dX10_init_53 (by decide) ?_
  refine tx_newai S hE hA hw 12 (by decide) (by decide) (by decide) (by decide) (by decide) dX10_init_55 (fun q6 H hw => ?_)
  have hw : WD g A s.heap ([(o, .inr (10, [.null, .int 0, .int 0, .int 0, .ref q0, .ref q1, .ref q2, .ref q3, .ref q4, .ref q5, .null, .null, .null, .null, .null, .int 0, .null])), (q0, .inl (g.2.1 1, 6, .inl (fun _ => 0))), (q1, .inl (g.2.1 1, 6, .inl (fun _ => 0))), (q2, .inl (g.2.1 1, 6, .inl (fun _ => 0))), (q3, .inl (g.2.1 1, 6, .inl (fun _ => 0))), (q4, .inl (g.2.1 1, 6, .inl (fun _ => 0))), (q5, .inl (g.2.1 1, 6, .inl (fun _ => 0))), (q6, .inl (g.2.1 1, 12, .inl (fun _ => 0)))] ++ X) H locs := hw
  refine tx_putF (ws' := [(o, .inr (10, [.null, .int 0, .int 0, .int 0, .ref q0, .ref q1, .ref q2, .ref q3, .ref q4, .ref q5, .ref q6, .null, .null, .null, .null, .int 0, .null])), (q0, .inl (g.2.1 1, 6, .inl (fun _ => 0))), (q1, .inl (g.2.1 1, 6, .inl (fun _ => 0))), (q2, .inl (g.2.1 1, 6, .inl (fun _ => 0))), (q3, .inl (g.2.1 1, 6, .inl (fun _ => 0))), (q4, .inl (g.2.1 1, 6, .inl (fun _ => 0))), (q5, .inl (g.2.1 1, 6, .inl (fun _ => 0))), (q6, .inl (g.2.1 1, 12, .inl (fun _ => 0)))] ++ X) S hE hw 10 inX10 tyX10_ok nmX10 rfl (by decide) kw_317 rfl rfl hin (tyX10_ok 10 (by decide)) rfl rfl 0 rfl (Nat.le_of_ble_eq_true rfl) rfl dX10_init_57 (fun H locs hw => ?_)
  refine lv_aload_n hx hb dX10_init_60 rfl (lv_at hl 0 rfl) ?_
  refine lv_bipush (v := 12) hx hb dX10_init_61 (by decide) ?_
  refine tx_newai S hE hA hw 12 (by decide) (by decide) (by decide) (by decide) (by decide) dX10_init_63 (fun q7 H hw => ?_)
  have hw : WD g A s.heap ([(o, .inr (10, [.null, .int 0, .int 0, .int 0, .ref q0, .ref q1, .ref q2, .ref q3, .ref q4, .ref q5, .ref q6, .null, .null, .null, .null, .int 0, .null])), (q0, .inl (g.2.1 1, 6, .inl (fun _ => 0))), (q1, .inl (g.2.1 1, 6, .inl (fun _ => 0))), (q2, .inl (g.2.1 1, 6, .inl (fun _ => 0))), (q3, .inl (g.2.1 1, 6, .inl (fun _ => 0))), (q4, .inl (g.2.1 1, 6, .inl (fun _ => 0))), (q5, .inl (g.2.1 1, 6, .inl (fun _ => 0))), (q6, .inl (g.2.1 1, 12, .inl (fun _ => 0))), (q7, .inl (g.2.1 1, 12, .inl (fun _ => 0)))] ++ X) H locs := hw
  refine tx_putF (ws' := [(o, .inr (10, [.null, .int 0, .int 0, .int 0, .ref q0, .ref q1, .ref q2, .ref q3, .ref q4, .ref q5, .ref q6, .ref q7, .null, .null, .null, .int 0, .null])), (q0, .inl (g.2.1 1, 6, .inl (fun _ => 0))), (q1, .inl (g.2.1 1, 6, .inl (fun _ => 0))), (q2, .inl (g.2.1 1, 6, .inl (fun _ => 0))), (q3, .inl (g.2.1 1, 6, .inl (fun _ => 0))), (q4, .inl (g.2.1 1, 6, .inl (fun _ => 0))), (q5, .inl (g.2.1 1, 6, .inl (fun _ => 0))), (q6, .inl (g.2.1 1, 12, .inl (fun _ => 0))), (q7, .inl (g.2.1 1, 12, .inl (fun _ => 0)))] ++ X) S hE hw 11 inX10 tyX10_ok nmX10 rfl (by decide) kw_320 rfl rfl hin (tyX10_ok 11 (by decide)) rfl rfl 0 rfl (Nat.le_of_ble_eq_true rfl) rfl dX10_init_65 (fun H locs hw => ?_)
  refine lv_aload_n hx hb dX10_init_68 rfl (lv_at hl 0 rfl) ?_
  refine lv_bipush (v := 12) hx hb dX10_init_69 (by decide) ?_
  refine tx_newai S hE hA hw 12 (by decide) (by decide) (by decide) (by decide) (by decide) dX10_init_71 (fun q8 H hw => ?_)
  have hw : WD g A s.heap ([(o, .inr (10, [.null, .int 0, .int 0, .int 0, .ref q0, .ref q1, .ref q2, .ref q3, .ref q4, .ref q5, .ref q6, .ref q7, .null, .null, .null, .int 0, .null])), (q0, .inl (g.2.1 1, 6, .inl (fun _ => 0))), (q1, .inl (g.2.1 1, 6, .inl (fun _ => 0))), (q2, .inl (g.2.1 1, 6, .inl (fun _ => 0))), (q3, .inl (g.2.1 1, 6, .inl (fun _ => 0))), (q4, .inl (g.2.1 1, 6, .inl (fun _ => 0))), (q5, .inl (g.2.1 1, 6, .inl (fun _ => 0))), (q6, .inl (g.2.1 1, 12, .inl (fun _ => 0))), (q7, .inl (g.2.1 1, 12, .inl (fun _ => 0))), (q8, .inl (g.2.1 1, 12, .inl (fun _ => 0)))] ++ X) H locs := hw
  refine tx_putF (ws' := [(o, .inr (10, [.null, .int 0, .int 0, .int 0, .ref q0, .ref q1, .ref q2, .ref q3, .ref q4, .ref q5, .ref q6, .ref q7, .ref q8, .null, .null, .int 0, .null])), (q0, .inl (g.2.1 1, 6, .inl (fun _ => 0))), (q1, .inl (g.2.1 1, 6, .inl (fun _ => 0))), (q2, .inl (g.2.1 1, 6, .inl (fun _ => 0))), (q3, .inl (g.2.1 1, 6, .inl (fun _ => 0))), (q4, .inl (g.2.1 1, 6, .inl (fun _ => 0))), (q5, .inl (g.2.1 1, 6, .inl (fun _ => 0))), (q6, .inl (g.2.1 1, 12, .inl (fun _ => 0))), (q7, .inl (g.2.1 1, 12, .inl (fun _ => 0))), (q8, .inl (g.2.1 1, 12, .inl (fun _ => 0)))] ++ X) S hE hw 12 inX10 tyX10_ok nmX10 rfl (by decide) kw_324 rfl rfl hin (tyX10_ok 12 (by decide)) rfl rfl 0 rfl (Nat.le_of_ble_eq_true rfl) rfl dX10_init_73 (fun H locs hw => ?_)
  refine lv_aload_n hx hb dX10_init_76 rfl (lv_at hl 0 rfl) ?_
  refine lv_iconst (v := 4) hx hb dX10_init_77 (by decide) ?_
  refine tx_newai S hE hA hw 4 (by decide) (by decide) (by decide) (by decide) (by decide) dX10_init_78 (fun q9 H hw => ?_)
  have hw : WD g A s.heap ([(o, .inr (10, [.null, .int 0, .int 0, .int 0, .ref q0, .ref q1, .ref q2, .ref q3, .ref q4, .ref q5, .ref q6, .ref q7, .ref q8, .null, .null, .int 0, .null])), (q0, .inl (g.2.1 1, 6, .inl (fun _ => 0))), (q1, .inl (g.2.1 1, 6, .inl (fun _ => 0))), (q2, .inl (g.2.1 1, 6, .inl (fun _ => 0))), (q3, .inl (g.2.1 1, 6, .inl (fun _ => 0))), (q4, .inl (g.2.1 1, 6, .inl (fun _ => 0))), (q5, .inl (g.2.1 1, 6, .inl (fun _ => 0))), (q6, .inl (g.2.1 1, 12, .inl (fun _ => 0))), (q7, .inl (g.2.1 1, 12, .inl (fun _ => 0))), (q8, .inl (g.2.1 1, 12, .inl (fun _ => 0))), (q9, .inl (g.2.1 1, 4, .inl (fun _ => 0)))] ++ X) H locs := hw
  refine tx_putF (ws' := [(o, .inr (10, [.null, .int 0, .int 0, .int 0, .ref q0, .ref q1, .ref q2, .ref q3, .ref q4, .ref q5, .ref q6, .ref q7, .ref q8, .ref q9, .null, .int 0, .null])), (q0, .inl (g.2.1 1, 6, .inl (fun _ => 0))), (q1, .inl (g.2.1 1, 6, .inl (fun _ => 0))), (q2, .inl (g.2.1 1, 6, .inl (fun _ => 0))), (q3, .inl (g.2.1 1, 6, .inl (fun _ => 0))), (q4, .inl (g.2.1 1, 6, .inl (fun _ => 0))), (q5, .inl (g.2.1 1, 6, .inl (fun _ => 0))), (q6, .inl (g.2.1 1, 12, .inl (fun _ => 0))), (q7, .inl (g.2.1 1, 12, .inl (fun _ => 0))), (q8, .inl (g.2.1 1, 12, .inl (fun _ => 0))), (q9, .inl (g.2.1 1, 4, .inl (fun _ => 0)))] ++ X) S hE hw 13 inX10 tyX10_ok nmX10 rfl (by decide) kw_328 rfl rfl hin (tyX10_ok 13 (by decide)) rfl rfl 0 rfl (Nat.le_of_ble_eq_true rfl) rfl dX10_init_80 (fun H locs hw => ?_)
  refine lv_aload_n hx hb dX10_init_83 rfl (lv_at hl 0 rfl) ?_
  refine lv_iconst (v := 4) hx hb dX10_init_84 (by decide) ?_
  refine tx_newai S hE hA hw 4 (by decide) (by decide) (by decide) (by decide) (by decide) dX10_init_85 (fun q10 H hw => ?_)
  have hw : WD g A s.heap ([(o, .inr (10, [.null, .int 0, .int 0, .int 0, .ref q0, .ref q1, .ref q2, .ref q3, .ref q4, .ref q5, .ref q6, .ref q7, .ref q8, .ref q9, .null, .int 0, .null])), (q0, .inl (g.2.1 1, 6, .inl (fun _ => 0))), (q1, .inl (g.2.1 1, 6, .inl (fun _ => 0))), (q2, .inl (g.2.1 1, 6, .inl (fun _ => 0))), (q3, .inl (g.2.1 1, 6, .inl (fun _ => 0))), (q4, .inl (g.2.1 1, 6, .inl (fun _ => 0))), (q5, .inl (g.2.1 1, 6, .inl (fun _ => 0))), (q6, .inl (g.2.1 1, 12, .inl (fun _ => 0))), (q7, .inl (g.2.1 1, 12, .inl (fun _ => 0))), (q8, .inl (g.2.1 1, 12, .inl (fun _ => 0))), (q9, .inl (g.2.1 1, 4, .inl (fun _ => 0))), (q10, .inl (g.2.1 1, 4, .inl (fun _ => 0)))] ++ X) H locs := hw
  refine tx_putF (ws' := [(o, .inr (10, [.null, .int 0, .int 0, .int 0, .ref q0, .ref q1, .ref q2, .ref q3, .ref q4, .ref q5, .ref q6, .ref q7, .ref q8, .ref q9, .ref q10, .int 0, .null])), (q0, .inl (g.2.1 1, 6, .inl (fun _ => 0))), (q1, .inl (g.2.1 1, 6, .inl (fun _ => 0))), (q2, .inl (g.2.1 1, 6, .inl (fun _ => 0))), (q3, .inl (g.2.1 1, 6, .inl (fun _ => 0))), (q4, .inl (g.2.1 1, 6, .inl (fun _ => 0))), (q5, .inl (g.2.1 1, 6, .inl (fun _ => 0))), (q6, .inl (g.2.1 1, 12, .inl (fun _ => 0))), (q7, .inl (g.2.1 1, 12, .inl (fun _ => 0))), (q8, .inl (g.2.1 1, 12, .inl (fun _ => 0))), (q9, .inl (g.2.1 1, 4, .inl (fun _ => 0))), (q10, .inl (g.2.1 1, 4, .inl (fun _ => 0)))] ++ X) S hE hw 14 inX10 tyX10_ok nmX10 rfl (by decide) kw_331 rfl rfl hin (tyX10_ok 14 (by decide)) rfl rfl 0 rfl (Nat.le_of_ble_eq_true rfl) rfl dX10_init_87 (fun H locs hw => ?_)
  refine lv_aload_n hx hb dX10_init_90 rfl (lv_at hl 0 rfl) ?_
  refine lv_bipush (v := 7) hx hb dX10_init_91 (by decide) ?_
  refine tx_newal S hE hA hw 7 (by decide) (by decide) (by decide) (by decide) (by decide) dX10_init_93 (fun q11 H hw => ?_)
  have hw : WD g A s.heap ([(o, .inr (10, [.null, .int 0, .int 0, .int 0, .ref q0, .ref q1, .ref q2, .ref q3, .ref q4, .ref q5, .ref q6, .ref q7, .ref q8, .ref q9, .ref q10, .int 0, .null])), (q0, .inl (g.2.1 1, 6, .inl (fun _ => 0))), (q1, .inl (g.2.1 1, 6, .inl (fun _ => 0))), (q2, .inl (g.2.1 1, 6, .inl (fun _ => 0))), (q3, .inl (g.2.1 1, 6, .inl (fun _ => 0))), (q4, .inl (g.2.1 1, 6, .inl (fun _ => 0))), (q5, .inl (g.2.1 1, 6, .inl (fun _ => 0))), (q6, .inl (g.2.1 1, 12, .inl (fun _ => 0))), (q7, .inl (g.2.1 1, 12, .inl (fun _ => 0))), (q8, .inl (g.2.1 1, 12, .inl (fun _ => 0))), (q9, .inl (g.2.1 1, 4, .inl (fun _ => 0))), (q10, .inl (g.2.1 1, 4, .inl (fun _ => 0))), (q11, .inl (g.2.1 2, 7, .inr (.inl (fun _ => 0))))] ++ X) H locs := hw
  refine tx_putF (ws' := [(o, .inr (10, [.null, .int 0, .int 0, .int 0, .ref q0, .ref q1, .ref q2, .ref q3, .ref q4, .ref q5, .ref q6, .ref q7, .ref q8, .ref q9, .ref q10, .int 0, .ref q11])), (q0, .inl (g.2.1 1, 6, .inl (fun _ => 0))), (q1, .inl (g.2.1 1, 6, .inl (fun _ => 0))), (q2, .inl (g.2.1 1, 6, .inl (fun _ => 0))), (q3, .inl (g.2.1 1, 6, .inl (fun _ => 0))), (q4, .inl (g.2.1 1, 6, .inl (fun _ => 0))), (q5, .inl (g.2.1 1, 6, .inl (fun _ => 0))), (q6, .inl (g.2.1 1, 12, .inl (fun _ => 0))), (q7, .inl (g.2.1 1, 12, .inl (fun _ => 0))), (q8, .inl (g.2.1 1, 12, .inl (fun _ => 0))), (q9, .inl (g.2.1 1, 4, .inl (fun _ => 0))), (q10, .inl (g.2.1 1, 4, .inl (fun _ => 0))), (q11, .inl (g.2.1 2, 7, .inr (.inl (fun _ => 0))))] ++ X) S hE hw 16 inX10 tyX10_ok nmX10 rfl (by decide) kw_336 rfl rfl hin (tyX10_ok 16 (by decide)) rfl rfl 0 rfl (Nat.le_of_ble_eq_true rfl) rfl dX10_init_95 (fun H locs hw => ?_)
  refine lv_aload_n hx hb dX10_init_98 rfl (lv_at hl 0 rfl) ?_
  refine lv_aload_n hx hb dX10_init_99 rfl (lv_at hl 1 rfl) ?_
  refine pf_X10_49 (ws' := [(o, .inr (10, [.ref b1, .int 0, .int 0, .int 0, .ref q0, .ref q1, .ref q2, .ref q3, .ref q4, .ref q5, .ref q6, .ref q7, .ref q8, .ref q9, .ref q10, .int 0, .ref q11])), (q0, .inl (g.2.1 1, 6, .inl (fun _ => 0))), (q1, .inl (g.2.1 1, 6, .inl (fun _ => 0))), (q2, .inl (g.2.1 1, 6, .inl (fun _ => 0))), (q3, .inl (g.2.1 1, 6, .inl (fun _ => 0))), (q4, .inl (g.2.1 1, 6, .inl (fun _ => 0))), (q5, .inl (g.2.1 1, 6, .inl (fun _ => 0))), (q6, .inl (g.2.1 1, 12, .inl (fun _ => 0))), (q7, .inl (g.2.1 1, 12, .inl (fun _ => 0))), (q8, .inl (g.2.1 1, 12, .inl (fun _ => 0))), (q9, .inl (g.2.1 1, 4, .inl (fun _ => 0))), (q10, .inl (g.2.1 1, 4, .inl (fun _ => 0))), (q11, .inl (g.2.1 2, 7, .inr (.inl (fun _ => 0))))] ++ X) S hE hw rfl rfl 0 rfl (Nat.le_of_ble_eq_true rfl) rfl dX10_init_100 (fun H locs hw => ?_)
  obtain ⟨a_T, a_N, hw, ho⟩ : ∃ (a_T a_N : Nat → Nat), WD g A s.heap (cl_X10 g a_T b1 (a_N 0) i_X10_u ++ (cl_N g a_N (fun _ _ => 0) ++ X)) H locs ∧ a_T 0 = o := ⟨fun k => [o, 0, 0, 0, 0, q0, q1, q2, q3, q4, q5, q6, q7, q8, q9, q10, 0, 0].getD k 0, fun _ => q11, hw, rfl⟩
  exact tx_vretC S hr hlk (fun i => [a_T, a_N].getD i (fun _ => 0)) ho hw (by decide) (by decide) dX10_init_103
def i_X9_u : S32 := fun _ _ => 0
set_option maxHeartbeats 4000000 in
set_option maxRecDepth 100000 in
theorem k_X9_init {l : Launch} {g : GG} {A : Nat → Prop} {X : va_W} {o : Nat} {b1 : Nat} : MK l yX9_init cX9_init 2 2 14 110 g A ([(o, .inr (9, [.null, .null]))] ++ X) [.ref o, .ref b1] o (fun ad => cl_X9 g (ad 0) (ad 1 0) i_X9_u ++ (cl_X10 g (ad 1) b1 (ad 2 0) i_X10_u ++ (cl_N g (ad 2) (fun _ _ => 0) ++ X))) := by
  refine tx_startC (av := [.ref o, .ref b1]) (by decide) rfl (Nat.le_of_ble_eq_true rfl) ?_
  intro p e s m below meth c ls S hr hlk hin hE hA hw hl
  have S : CallFix p m c cX9_init 2 s (List.toArray [.ref o, .ref b1]) (Cond.code yX9_init cX9_init 2 none :: allW) RX9 := S
  have hx := S.1
  have hb := S.2.1
  generalize hL0 : ([] : List Loc) = locs at hw ⊢
  have hl : lv_has ls 2 [(0, .ref o), (1, .ref b1)] := hl
  refine lv_aload_n hx hb dX9_init_0 rfl (lv_at hl 0 rfl) ?_
  refine tx_objInit S kw_377 hl.1 (by decide) (Nat.le_of_ble_eq_true rfl) dX9_init_1 ?_
  refine lv_aload_n hx hb dX9_init_4 rfl (lv_at hl 0 rfl) ?_
  refine lv_bipush (v := 6) hx hb dX9_init_5 (by decide) ?_
  refine tx_newai S hE hA hw 6 (by decide) (by decide) (by decide) (by decide) (by decide) dX9_init_7 (fun q0 H hw => ?_)
  have hw : WD g A s.heap ([(o, .inr (9, [.null, .null])), (q0, .inl (g.2.1 1, 6, .inl (fun _ => 0)))] ++ X) H locs := hw
  refine tx_putF (ws' := [(o, .inr (9, [.null, .ref q0])), (q0, .inl (g.2.1 1, 6, .inl (fun _ => 0)))] ++ X) S hE hw 1 inX9 tyX9_ok nmX9 rfl (by decide) kw_381 rfl rfl hin (tyX9_ok 1 (by decide)) rfl rfl 0 rfl (Nat.le_of_ble_eq_true rfl) rfl dX9_init_9 (fun H locs hw => ?_)
  refine lv_aload_n hx hb dX9_init_12 rfl (lv_at hl 0 rfl) ?_
  refine tx_new (ci := 10) (fs := [.null, .int 0, .int 0, .int 0, .null, .null, .null, .null, .null, .null, .null, .null, .null, .null, .null, .int 0, .null]) S hE hA hw inX10 tyX10 tyX10_ok kw_378 kw_279 kw_8 rfl (fun j hj => by match j, hj with | 0, _ => rfl | 1, _ => rfl | 2, _ => rfl | 3, _ => rfl | 4, _ => rfl | 5, _ => rfl | 6, _ => rfl | 7, _ => rfl | 8, _ => rfl | 9, _ => rfl | 10, _ => rfl | 11, _ => rfl | 12, _ => rfl | 13, _ => rfl | 14, _ => rfl | 15, _ => rfl | 16, _ => rfl | k + 17, h => exact absurd h (by omega)) (by decide) (by decide) dX9_init_13 (fun q1 H hw => ?_)
  refine lv_dup hx hb dX9_init_16 rfl ?_
  refine lv_aload_n hx hb dX9_init_17 rfl (lv_at hl 1 rfl) ?_
  refine tx_mkN (n := 1) S hE hA hw (k_X10_init (o := q1) (b1 := b1)) kw_379 kw_282 kw_8 ⟨by decide +kernel, by decide +kernel, by decide +kernel⟩ kw_281 rfl rfl hl.1 (rest := [.ref q1, .ref o]) rfl (Nat.le_of_ble_eq_true rfl) ⟨by decide, by decide⟩ dX9_init_18 ⟨by decide, by decide⟩ (fun ad2 H locs had2 hw => ?_)
  have hw : WD g A s.heap (cl_X10 g (ad2 0) b1 (ad2 1 0) i_X10_u ++ (cl_N g (ad2 1) (fun _ _ => 0) ++ ([(o, .inr (9, [.null, .ref q0])), (q0, .inl (g.2.1 1, 6, .inl (fun _ => 0)))] ++ X))) H locs := hw
  rw [← had2]
  refine tx_putF (ws' := cl_X10 g (ad2 0) b1 (ad2 1 0) i_X10_u ++ (cl_N g (ad2 1) (fun _ _ => 0) ++ ([(o, .inr (9, [.ref (ad2 0 0), .ref q0])), (q0, .inl (g.2.1 1, 6, .inl (fun _ => 0)))] ++ X))) S hE hw 0 inX9 tyX9_ok nmX9 rfl (by decide) kw_380 rfl rfl hin (tyX9_ok 0 (by decide)) rfl rfl 13 rfl (Nat.le_of_ble_eq_true rfl) rfl dX9_init_21 (fun H locs hw => ?_)
  have hw := hw.u2
  obtain ⟨a_T, hw, ho⟩ : ∃ a_T : Nat → Nat, WD g A s.heap (cl_X9 g a_T (ad2 0 0) i_X9_u ++ (cl_X10 g (ad2 0) b1 (ad2 1 0) i_X10_u ++ (cl_N g (ad2 1) (fun _ _ => 0) ++ X))) H locs ∧ a_T 0 = o := ⟨fun k => [o, 0, q0].getD k 0, hw, rfl⟩
  exact tx_vretC S hr hlk (fun i => [a_T, ad2 0, ad2 1].getD i (fun _ => 0)) ho hw (by decide) (by decide) dX9_init_24
def i_X1_u : S32 := fun _ _ => 0
set_option maxHeartbeats 4000000 in
set_option maxRecDepth 100000 in
theorem k_X1_init {l : Launch} {g : GG} {A : Nat → Prop} {X : va_W} {o : Nat} : MK l yX1_init cX1_init 1 1 3 60 g A ([(o, .inr (1, [.null, .null, .null, .int 0]))] ++ X) [.ref o] o (fun ad => cl_X1 g (ad 0) i_X1_u ++ X) := by
  refine tx_startC (av := [.ref o]) (by decide) rfl (Nat.le_of_ble_eq_true rfl) ?_
  intro p e s m below meth c ls S hr hlk hin hE hA hw hl
  have S : CallFix p m c cX1_init 1 s (List.toArray [.ref o]) (Cond.code yX1_init cX1_init 1 none :: allW) RX1 := S
  have hx := S.1
  have hb := S.2.1
  generalize hL0 : ([] : List Loc) = locs at hw ⊢
  have hl : lv_has ls 1 [(0, .ref o)] := hl
  refine lv_aload_n hx hb dX1_init_0 rfl (lv_at hl 0 rfl) ?_
  refine tx_objInit S kw_392 hl.1 (by decide) (Nat.le_of_ble_eq_true rfl) dX1_init_1 ?_
  refine lv_aload_n hx hb dX1_init_4 rfl (lv_at hl 0 rfl) ?_
  refine lv_bipush (v := 20) hx hb dX1_init_5 (by decide) ?_
  refine tx_newai S hE hA hw 20 (by decide) (by decide) (by decide) (by decide) (by decide) dX1_init_7 (fun q0 H hw => ?_)
  have hw : WD g A s.heap ([(o, .inr (1, [.null, .null, .null, .int 0])), (q0, .inl (g.2.1 1, 20, .inl (fun _ => 0)))] ++ X) H locs := hw
  refine tx_putF (ws' := [(o, .inr (1, [.ref q0, .null, .null, .int 0])), (q0, .inl (g.2.1 1, 20, .inl (fun _ => 0)))] ++ X) S hE hw 0 inX1 tyX1_ok nmX1 rfl (by decide) kw_393 rfl rfl hin (tyX1_ok 0 (by decide)) rfl rfl 0 rfl (Nat.le_of_ble_eq_true rfl) rfl dX1_init_9 (fun H locs hw => ?_)
  refine lv_aload_n hx hb dX1_init_12 rfl (lv_at hl 0 rfl) ?_
  refine lv_bipush (v := 20) hx hb dX1_init_13 (by decide) ?_
  refine tx_newai S hE hA hw 20 (by decide) (by decide) (by decide) (by decide) (by decide) dX1_init_15 (fun q1 H hw => ?_)
  have hw : WD g A s.heap ([(o, .inr (1, [.ref q0, .null, .null, .int 0])), (q0, .inl (g.2.1 1, 20, .inl (fun _ => 0))), (q1, .inl (g.2.1 1, 20, .inl (fun _ => 0)))] ++ X) H locs := hw
  refine tx_putF (ws' := [(o, .inr (1, [.ref q0, .ref q1, .null, .int 0])), (q0, .inl (g.2.1 1, 20, .inl (fun _ => 0))), (q1, .inl (g.2.1 1, 20, .inl (fun _ => 0)))] ++ X) S hE hw 1 inX1 tyX1_ok nmX1 rfl (by decide) kw_394 rfl rfl hin (tyX1_ok 1 (by decide)) rfl rfl 0 rfl (Nat.le_of_ble_eq_true rfl) rfl dX1_init_17 (fun H locs hw => ?_)
  refine lv_aload_n hx hb dX1_init_20 rfl (lv_at hl 0 rfl) ?_
  refine lv_bipush (v := 20) hx hb dX1_init_21 (by decide) ?_
  refine tx_newai S hE hA hw 20 (by decide) (by decide) (by decide) (by decide) (by decide) dX1_init_23 (fun q2 H hw => ?_)
  have hw : WD g A s.heap ([(o, .inr (1, [.ref q0, .ref q1, .null, .int 0])), (q0, .inl (g.2.1 1, 20, .inl (fun _ => 0))), (q1, .inl (g.2.1 1, 20, .inl (fun _ => 0))), (q2, .inl (g.2.1 1, 20, .inl (fun _ => 0)))] ++ X) H locs := hw
  refine tx_putF (ws' := [(o, .inr (1, [.ref q0, .ref q1, .ref q2, .int 0])), (q0, .inl (g.2.1 1, 20, .inl (fun _ => 0))), (q1, .inl (g.2.1 1, 20, .inl (fun _ => 0))), (q2, .inl (g.2.1 1, 20, .inl (fun _ => 0)))] ++ X) S hE hw 2 inX1 tyX1_ok nmX1 rfl (by decide) kw_395 rfl rfl hin (tyX1_ok 2 (by decide)) rfl rfl 0 rfl (Nat.le_of_ble_eq_true rfl) rfl dX1_init_25 (fun H locs hw => ?_)
  obtain ⟨a_T, hw, ho⟩ : ∃ a_T : Nat → Nat, WD g A s.heap (cl_X1 g a_T i_X1_u ++ X) H locs ∧ a_T 0 = o := ⟨fun k => [o, q0, q1, q2, 0].getD k 0, hw, rfl⟩
  exact tx_vretC S hr hlk (fun i => [a_T].getD i (fun _ => 0)) ho hw (by decide) (by decide) dX1_init_28
def i_X2_u : S32 := up2 (fun _ _ => 0) 0 6 (-1 : Int32)
set_option maxHeartbeats 4000000 in
set_option maxRecDepth 100000 in
theorem k_X2_init {l : Launch} {g : GG} {A : Nat → Prop} {X : va_W} {o : Nat} : MK l yX2_init cX2_init 1 1 5 120 g A ([(o, .inr (2, [.null, .null, .null, .null, .null, .int 0, .int 0]))] ++ X) [.ref o] o (fun ad => cl_X2 g (ad 0) i_X2_u ++ X) := by
  refine tx_startC (av := [.ref o]) (by decide) rfl (Nat.le_of_ble_eq_true rfl) ?_
  intro p e s m below meth c ls S hr hlk hin hE hA hw hl
  have S : CallFix p m c cX2_init 1 s (List.toArray [.ref o]) (Cond.code yX2_init cX2_init 1 none :: allW) RX2 := S
  have hx := S.1
  have hb := S.2.1
  generalize hL0 : ([] : List Loc) = locs at hw ⊢
  have hl : lv_has ls 1 [(0, .ref o)] := hl
  refine lv_aload_n hx hb dX2_init_0 rfl (lv_at hl 0 rfl) ?_
  refine tx_objInit S kw_412 hl.1 (by decide) (Nat.le_of_ble_eq_true rfl) dX2_init_1 ?_
  refine lv_aload_n hx hb dX2_init_4 rfl (lv_at hl 0 rfl) ?_
  refine lv_bipush (v := 24) hx hb dX2_init_5 (by decide) ?_
  refine tx_newai S hE hA hw 24 (by decide) (by decide) (by decide) (by decide) (by decide) dX2_init_7 (fun q0 H hw => ?_)
  have hw : WD g A s.heap ([(o, .inr (2, [.null, .null, .null, .null, .null, .int 0, .int 0])), (q0, .inl (g.2.1 1, 24, .inl (fun _ => 0)))] ++ X) H locs := hw
  refine tx_putF (ws' := [(o, .inr (2, [.ref q0, .null, .null, .null, .null, .int 0, .int 0])), (q0, .inl (g.2.1 1, 24, .inl (fun _ => 0)))] ++ X) S hE hw 0 inX2 tyX2_ok nmX2 rfl (by decide) kw_413 rfl rfl hin (tyX2_ok 0 (by decide)) rfl rfl 0 rfl (Nat.le_of_ble_eq_true rfl) rfl dX2_init_9 (fun H locs hw => ?_)
  refine lv_aload_n hx hb dX2_init_12 rfl (lv_at hl 0 rfl) ?_
  refine lv_bipush (v := 24) hx hb dX2_init_13 (by decide) ?_
  refine tx_newai S hE hA hw 24 (by decide) (by decide) (by decide) (by decide) (by decide) dX2_init_15 (fun q1 H hw => ?_)
  have hw : WD g A s.heap ([(o, .inr (2, [.ref q0, .null, .null, .null, .null, .int 0, .int 0])), (q0, .inl (g.2.1 1, 24, .inl (fun _ => 0))), (q1, .inl (g.2.1 1, 24, .inl (fun _ => 0)))] ++ X) H locs := hw
  refine tx_putF (ws' := [(o, .inr (2, [.ref q0, .ref q1, .null, .null, .null, .int 0, .int 0])), (q0, .inl (g.2.1 1, 24, .inl (fun _ => 0))), (q1, .inl (g.2.1 1, 24, .inl (fun _ => 0)))] ++ X) S hE hw 1 inX2 tyX2_ok nmX2 rfl (by decide) kw_414 rfl rfl hin (tyX2_ok 1 (by decide)) rfl rfl 0 rfl (Nat.le_of_ble_eq_true rfl) rfl dX2_init_17 (fun H locs hw => ?_)
  refine lv_aload_n hx hb dX2_init_20 rfl (lv_at hl 0 rfl) ?_
  refine lv_bipush (v := 24) hx hb dX2_init_21 (by decide) ?_
  refine tx_newaz S hE hA hw 24 (by decide) (by decide) (by decide) (by decide) (by decide) dX2_init_23 (fun q2 H hw => ?_)
  have hw : WD g A s.heap ([(o, .inr (2, [.ref q0, .ref q1, .null, .null, .null, .int 0, .int 0])), (q0, .inl (g.2.1 1, 24, .inl (fun _ => 0))), (q1, .inl (g.2.1 1, 24, .inl (fun _ => 0))), (q2, .inl (g.2.1 3, 24, .inl (fun _ => 0)))] ++ X) H locs := hw
  refine tx_putF (ws' := [(o, .inr (2, [.ref q0, .ref q1, .ref q2, .null, .null, .int 0, .int 0])), (q0, .inl (g.2.1 1, 24, .inl (fun _ => 0))), (q1, .inl (g.2.1 1, 24, .inl (fun _ => 0))), (q2, .inl (g.2.1 3, 24, .inl (fun _ => 0)))] ++ X) S hE hw 2 inX2 tyX2_ok nmX2 rfl (by decide) kw_415 rfl rfl hin (tyX2_ok 2 (by decide)) rfl rfl 0 rfl (Nat.le_of_ble_eq_true rfl) rfl dX2_init_25 (fun H locs hw => ?_)
  refine lv_aload_n hx hb dX2_init_28 rfl (lv_at hl 0 rfl) ?_
  refine lv_bipush (v := 24) hx hb dX2_init_29 (by decide) ?_
  refine tx_newai S hE hA hw 24 (by decide) (by decide) (by decide) (by decide) (by decide) dX2_init_31 (fun q3 H hw => ?_)
  have hw : WD g A s.heap ([(o, .inr (2, [.ref q0, .ref q1, .ref q2, .null, .null, .int 0, .int 0])), (q0, .inl (g.2.1 1, 24, .inl (fun _ => 0))), (q1, .inl (g.2.1 1, 24, .inl (fun _ => 0))), (q2, .inl (g.2.1 3, 24, .inl (fun _ => 0))), (q3, .inl (g.2.1 1, 24, .inl (fun _ => 0)))] ++ X) H locs := hw
  refine tx_putF (ws' := [(o, .inr (2, [.ref q0, .ref q1, .ref q2, .ref q3, .null, .int 0, .int 0])), (q0, .inl (g.2.1 1, 24, .inl (fun _ => 0))), (q1, .inl (g.2.1 1, 24, .inl (fun _ => 0))), (q2, .inl (g.2.1 3, 24, .inl (fun _ => 0))), (q3, .inl (g.2.1 1, 24, .inl (fun _ => 0)))] ++ X) S hE hw 3 inX2 tyX2_ok nmX2 rfl (by decide) kw_416 rfl rfl hin (tyX2_ok 3 (by decide)) rfl rfl 0 rfl (Nat.le_of_ble_eq_true rfl) rfl dX2_init_33 (fun H locs hw => ?_)
  refine lv_aload_n hx hb dX2_init_36 rfl (lv_at hl 0 rfl) ?_
  refine lv_bipush (v := 24) hx hb dX2_init_37 (by decide) ?_
  refine tx_newaz S hE hA hw 24 (by decide) (by decide) (by decide) (by decide) (by decide) dX2_init_39 (fun q4 H hw => ?_)
  have hw : WD g A s.heap ([(o, .inr (2, [.ref q0, .ref q1, .ref q2, .ref q3, .null, .int 0, .int 0])), (q0, .inl (g.2.1 1, 24, .inl (fun _ => 0))), (q1, .inl (g.2.1 1, 24, .inl (fun _ => 0))), (q2, .inl (g.2.1 3, 24, .inl (fun _ => 0))), (q3, .inl (g.2.1 1, 24, .inl (fun _ => 0))), (q4, .inl (g.2.1 3, 24, .inl (fun _ => 0)))] ++ X) H locs := hw
  refine tx_putF (ws' := [(o, .inr (2, [.ref q0, .ref q1, .ref q2, .ref q3, .ref q4, .int 0, .int 0])), (q0, .inl (g.2.1 1, 24, .inl (fun _ => 0))), (q1, .inl (g.2.1 1, 24, .inl (fun _ => 0))), (q2, .inl (g.2.1 3, 24, .inl (fun _ => 0))), (q3, .inl (g.2.1 1, 24, .inl (fun _ => 0))), (q4, .inl (g.2.1 3, 24, .inl (fun _ => 0)))] ++ X) S hE hw 4 inX2 tyX2_ok nmX2 rfl (by decide) kw_417 rfl rfl hin (tyX2_ok 4 (by decide)) rfl rfl 0 rfl (Nat.le_of_ble_eq_true rfl) rfl dX2_init_41 (fun H locs hw => ?_)
  refine lv_aload_n hx hb dX2_init_44 rfl (lv_at hl 0 rfl) ?_
  refine lv_iconst (v := -1) hx hb dX2_init_45 (by decide) ?_
  refine pf_X2_28 (ws' := [(o, .inr (2, [.ref q0, .ref q1, .ref q2, .ref q3, .ref q4, .int 0, .int (-1 : Int32)])), (q0, .inl (g.2.1 1, 24, .inl (fun _ => 0))), (q1, .inl (g.2.1 1, 24, .inl (fun _ => 0))), (q2, .inl (g.2.1 3, 24, .inl (fun _ => 0))), (q3, .inl (g.2.1 1, 24, .inl (fun _ => 0))), (q4, .inl (g.2.1 3, 24, .inl (fun _ => 0)))] ++ X) S hE hw rfl rfl 0 rfl (Nat.le_of_ble_eq_true rfl) rfl dX2_init_46 (fun H locs hw => ?_)
  obtain ⟨a_T, hw, ho⟩ : ∃ a_T : Nat → Nat, WD g A s.heap (cl_X2 g a_T i_X2_u ++ X) H locs ∧ a_T 0 = o := ⟨fun k => [o, q0, q1, q2, q3, q4, 0, 0].getD k 0, hw, rfl⟩
  exact tx_vretC S hr hlk (fun i => [a_T].getD i (fun _ => 0)) ho hw (by decide) (by decide) dX2_init_49
def i_X3_u : S32 := fun _ _ => 0
set_option maxHeartbeats 4000000 in
set_option maxRecDepth 100000 in
theorem k_X3_init {l : Launch} {g : GG} {A : Nat → Prop} {X : va_W} {o : Nat} : MK l yX3_init cX3_init 1 1 1 4 g A ([(o, .inr (3, [.null, .int 0, .int 0, .int 0]))] ++ X) [.ref o] o (fun ad => cl_X3 g (ad 0) i_X3_u ++ X) := by
  refine tx_startC (av := [.ref o]) (by decide) rfl (Nat.le_of_ble_eq_true rfl) ?_
  intro p e s m below meth c ls S hr hlk hin hE hA hw hl
  have S : CallFix p m c cX3_init 1 s (List.toArray [.ref o]) (Cond.code yX3_init cX3_init 1 none :: allW) RX3 := S
  have hx := S.1
  have hb := S.2.1
  generalize hL0 : ([] : List Loc) = locs at hw ⊢
  have hl : lv_has ls 1 [(0, .ref o)] := hl
  refine lv_aload_n hx hb dX3_init_0 rfl (lv_at hl 0 rfl) ?_
  refine tx_objInit S kw_442 hl.1 (by decide) (Nat.le_of_ble_eq_true rfl) dX3_init_1 ?_
  refine lv_aload_n hx hb dX3_init_4 rfl (lv_at hl 0 rfl) ?_
  refine va_gets hx hb hE.2.1.2.2.1 hw.2.2 S.2.2.2.1 (S.2.2.2.2 _ (List.mem_cons_of_mem _ kw_443)) (fun _ h => h) dX3_init_5 ?_
  refine va_tlen (v := 4) hx hb hE.2.1.2.2.2 hw.2.2 (by decide) dX3_init_8 ?_
  refine tx_newai S hE hA hw 4 (by decide) (by decide) (by decide) (by decide) (by decide) dX3_init_9 (fun q0 H hw => ?_)
  have hw : WD g A s.heap ([(o, .inr (3, [.null, .int 0, .int 0, .int 0])), (q0, .inl (g.2.1 1, 4, .inl (fun _ => 0)))] ++ X) H locs := hw
  refine tx_putF (ws' := [(o, .inr (3, [.ref q0, .int 0, .int 0, .int 0])), (q0, .inl (g.2.1 1, 4, .inl (fun _ => 0)))] ++ X) S hE hw 0 inX3 tyX3_ok nmX3 rfl (by decide) kw_445 rfl rfl hin (tyX3_ok 0 (by decide)) rfl rfl 0 rfl (Nat.le_of_ble_eq_true rfl) rfl dX3_init_11 (fun H locs hw => ?_)
  obtain ⟨a_T, hw, ho⟩ : ∃ a_T : Nat → Nat, WD g A s.heap (cl_X3 g a_T i_X3_u ++ X) H locs ∧ a_T 0 = o := ⟨fun k => [o, q0, 0, 0, 0].getD k 0, hw, rfl⟩
  exact tx_vretC S hr hlk (fun i => [a_T].getD i (fun _ => 0)) ho hw (by decide) (by decide) dX3_init_14
def i_X11_u : S32 := fun _ _ => 0
set_option maxHeartbeats 4000000 in
set_option maxRecDepth 100000 in
theorem k_X11_init {l : Launch} {g : GG} {A : Nat → Prop} {X : va_W} {o : Nat} {fu : Nat} {u20 : S32} (hf0 : f_X10_begin fu i_X0_u i_X10_u = some u20) : MK l yX11_init cX11_init 1 3 94 1924 g A ([(o, .inr (11, [.null, .null, .null, .null, .null, .null, .null, .null, .null, .null, .int 0]))] ++ X) [.ref o] o (fun ad => cl_X11 g (ad 0) (ad 18 0) (ad 2 0) (ad 15 0) (ad 12 0) (ad 1 0) (ad 9 0) (ad 6 0) (ad 5 0) (ad 4 0) (ad 3 0) i_X11_u ++ (cl_X10 g (ad 1) (ad 2 0) (ad 11 0) u20 ++ (cl_X0 g (ad 2) (ad 17 0) i_X0_u ++ (cl_X3 g (ad 3) i_X3_u ++ (cl_X2 g (ad 4) i_X2_u ++ (cl_X1 g (ad 5) i_X1_u ++ (cl_X9 g (ad 6) (ad 7 0) i_X9_u ++ (cl_X10 g (ad 7) (ad 2 0) (ad 8 0) i_X10_u ++ (cl_N g (ad 8) (fun _ _ => 0) ++ (cl_X10 g (ad 9) (ad 2 0) (ad 10 0) i_X10_u ++ (cl_N g (ad 10) (fun _ _ => 0) ++ (cl_N g (ad 11) (fun _ _ => 0) ++ (cl_X7 g (ad 12) (ad 14 0) (ad 13 0) (ad 15 0) i_X7_u ++ (cl_X4 g (ad 13) (ad 14 0) (ad 16 0) i_X4_u ++ (cl_X8 g (ad 14) (ad 18 0) i_X8_u ++ (cl_X0 g (ad 15) (ad 16 0) i_X0_u ++ (cl_X5 g (ad 16) i_X5_u i_X5_v ++ (cl_X5 g (ad 17) i_X5_u i_X5_v ++ (cl_X6 g (ad 18) i_X6_u ++ X))))))))))))))))))) := by
  refine tx_startC (av := [.ref o]) (by decide) rfl (Nat.le_of_ble_eq_true rfl) ?_
  intro p e s m below meth c ls S hr hlk hin hE hA hw hl
  have S : CallFix p m c cX11_init 1 s (List.toArray [.ref o]) (Cond.code yX11_init cX11_init 1 none :: allW) RX11 := S
  have hx := S.1
  have hb := S.2.1
  generalize hL0 : ([] : List Loc) = locs at hw ⊢
  have hl : lv_has ls 1 [(0, .ref o)] := hl
  refine lv_aload_n hx hb dX11_init_0 rfl (lv_at hl 0 rfl) ?_
  refine tx_objInit S kw_27 hl.1 (by decide) (Nat.le_of_ble_eq_true rfl) dX11_init_1 ?_
  refine lv_aload_n hx hb dX11_init_4 rfl (lv_at hl 0 rfl) ?_
  refine tx_new (ci := 6) (fs := [.null, .int 0]) S hE hA hw inX6 tyX6 tyX6_ok kw_30 kw_31 kw_2 rfl (fun j hj => by match j, hj with | 0, _ => rfl | 1, _ => rfl | k + 2, h => exact absurd h (by omega)) (by decide) (by decide) dX11_init_5 (fun q0 H hw => ?_)
  refine lv_dup hx hb dX11_init_8 rfl ?_
  refine tx_mkN (n := 0) S hE hA hw (k_X6_init (o := q0)) kw_32 kw_34 kw_2 ⟨by decide +kernel, by decide +kernel, by decide +kernel⟩ kw_33 rfl rfl hl.1 (rest := [.ref q0, .ref o]) rfl (Nat.le_of_ble_eq_true rfl) ⟨by decide, by decide⟩ dX11_init_9 ⟨by decide, by decide⟩ (fun ad1 H locs had1 hw => ?_)
  have hw : WD g A s.heap (cl_X6 g (ad1 0) i_X6_u ++ ([(o, .inr (11, [.null, .null, .null, .null, .null, .null, .null, .null, .null, .null, .int 0]))] ++ X)) H locs := hw
  rw [← had1]
  refine tx_putF (ws' := cl_X6 g (ad1 0) i_X6_u ++ ([(o, .inr (11, [.ref (ad1 0 0), .null, .null, .null, .null, .null, .null, .null, .null, .null, .int 0]))] ++ X)) S hE hw 0 inX11 tyX11_ok nmX11 rfl (by decide) kw_469 rfl rfl hin (tyX11_ok 0 (by decide)) rfl rfl 2 rfl (Nat.le_of_ble_eq_true rfl) rfl dX11_init_12 (fun H locs hw => ?_)
  refine lv_aload_n hx hb dX11_init_15 rfl (lv_at hl 0 rfl) ?_
  refine tx_new (ci := 0) (fs := [.int 0, .int 0, .null, .null, .null, .int 0, .null, .null, .null, .null, .int 0, .null, .null, .null, .int 0, .int 0, .int 0, .null]) S hE hA hw inX0 tyX0 tyX0_ok kw_46 kw_47 kw_3 rfl (fun j hj => by match j, hj with | 0, _ => rfl | 1, _ => rfl | 2, _ => rfl | 3, _ => rfl | 4, _ => rfl | 5, _ => rfl | 6, _ => rfl | 7, _ => rfl | 8, _ => rfl | 9, _ => rfl | 10, _ => rfl | 11, _ => rfl | 12, _ => rfl | 13, _ => rfl | 14, _ => rfl | 15, _ => rfl | 16, _ => rfl | 17, _ => rfl | k + 18, h => exact absurd h (by omega)) (by decide) (by decide) dX11_init_16 (fun q2 H hw => ?_)
  refine lv_dup hx hb dX11_init_19 rfl ?_
  refine tx_mkN (n := 0) S hE hA hw (k_X0_init (o := q2)) kw_48 kw_50 kw_3 ⟨by decide +kernel, by decide +kernel, by decide +kernel⟩ kw_49 rfl rfl hl.1 (rest := [.ref q2, .ref o]) rfl (Nat.le_of_ble_eq_true rfl) ⟨by decide, by decide⟩ dX11_init_20 ⟨by decide, by decide⟩ (fun ad3 H locs had3 hw => ?_)
  have hw : WD g A s.heap (cl_X0 g (ad3 0) (ad3 1 0) i_X0_u ++ (cl_X5 g (ad3 1) i_X5_u i_X5_v ++ (cl_X6 g (ad1 0) i_X6_u ++ ([(o, .inr (11, [.ref (ad1 0 0), .null, .null, .null, .null, .null, .null, .null, .null, .null, .int 0]))] ++ X)))) H locs := hw
  rw [← had3]
  refine pf_X11_21 (ws' := cl_X0 g (ad3 0) (ad3 1 0) i_X0_u ++ (cl_X5 g (ad3 1) i_X5_u i_X5_v ++ (cl_X6 g (ad1 0) i_X6_u ++ ([(o, .inr (11, [.ref (ad1 0 0), .ref (ad3 0 0), .null, .null, .null, .null, .null, .null, .null, .null, .int 0]))] ++ X)))) S hE hw rfl rfl 19 rfl (Nat.le_of_ble_eq_true rfl) rfl dX11_init_23 (fun H locs hw => ?_)
  refine lv_aload_n hx hb dX11_init_26 rfl (lv_at hl 0 rfl) ?_
  refine tx_new (ci := 0) (fs := [.int 0, .int 0, .null, .null, .null, .int 0, .null, .null, .null, .null, .int 0, .null, .null, .null, .int 0, .int 0, .int 0, .null]) S hE hA hw inX0 tyX0 tyX0_ok kw_46 kw_47 kw_3 rfl (fun j hj => by match j, hj with | 0, _ => rfl | 1, _ => rfl | 2, _ => rfl | 3, _ => rfl | 4, _ => rfl | 5, _ => rfl | 6, _ => rfl | 7, _ => rfl | 8, _ => rfl | 9, _ => rfl | 10, _ => rfl | 11, _ => rfl | 12, _ => rfl | 13, _ => rfl | 14, _ => rfl | 15, _ => rfl | 16, _ => rfl | 17, _ => rfl | k + 18, h => exact absurd h (by omega)) (by decide) (by decide) dX11_init_27 (fun q4 H hw => ?_)
  refine lv_dup hx hb dX11_init_30 rfl ?_
  refine tx_mkN (n := 0) S hE hA hw (k_X0_init (o := q4)) kw_48 kw_50 kw_3 ⟨by decide +kernel, by decide +kernel, by decide +kernel⟩ kw_49 rfl rfl hl.1 (rest := [.ref q4, .ref o]) rfl (Nat.le_of_ble_eq_true rfl) ⟨by decide, by decide⟩ dX11_init_31 ⟨by decide, by decide⟩ (fun ad5 H locs had5 hw => ?_)
  have hw : WD g A s.heap (cl_X0 g (ad5 0) (ad5 1 0) i_X0_u ++ (cl_X5 g (ad5 1) i_X5_u i_X5_v ++ (cl_X0 g (ad3 0) (ad3 1 0) i_X0_u ++ (cl_X5 g (ad3 1) i_X5_u i_X5_v ++ (cl_X6 g (ad1 0) i_X6_u ++ ([(o, .inr (11, [.ref (ad1 0 0), .ref (ad3 0 0), .null, .null, .null, .null, .null, .null, .null, .null, .int 0]))] ++ X)))))) H locs := hw
  rw [← had5]
  refine pf_X11_25 (ws' := cl_X0 g (ad5 0) (ad5 1 0) i_X0_u ++ (cl_X5 g (ad5 1) i_X5_u i_X5_v ++ (cl_X0 g (ad3 0) (ad3 1 0) i_X0_u ++ (cl_X5 g (ad3 1) i_X5_u i_X5_v ++ (cl_X6 g (ad1 0) i_X6_u ++ ([(o, .inr (11, [.ref (ad1 0 0), .ref (ad3 0 0), .ref (ad5 0 0), .null, .null, .null, .null, .null, .null, .null, .int 0]))] ++ X)))))) S hE hw rfl rfl 36 rfl (Nat.le_of_ble_eq_true rfl) rfl dX11_init_34 (fun H locs hw => ?_)
  refine lv_aload_n hx hb dX11_init_37 rfl (lv_at hl 0 rfl) ?_
  refine tx_new (ci := 7) (fs := [.null, .null, .int 0, .int 0, .null, .int 0, .int 0]) S hE hA hw inX7 tyX7 tyX7_ok kw_183 kw_184 kw_5 rfl (fun j hj => by match j, hj with | 0, _ => rfl | 1, _ => rfl | 2, _ => rfl | 3, _ => rfl | 4, _ => rfl | 5, _ => rfl | 6, _ => rfl | k + 7, h => exact absurd h (by omega)) (by decide) (by decide) dX11_init_38 (fun q6 H hw => ?_)
  refine lv_dup hx hb dX11_init_41 rfl ?_
  refine lv_aload_n hx hb dX11_init_42 rfl (lv_at hl 0 rfl) ?_
  refine gf_X11_12 S hE hw 37 rfl rfl dX11_init_43 ?_
  refine lv_aload_n hx hb dX11_init_46 rfl (lv_at hl 0 rfl) ?_
  refine gf_X11_25 S hE hw 37 rfl rfl dX11_init_47 ?_
  have hw := hw.u1
  have hw := hw.u1
  refine tx_mkN (n := 2) S hE hA hw (k_X7_init (o := q6) (b1 := (ad1 0 0))) kw_185 kw_187 kw_5 ⟨by decide +kernel, by decide +kernel, by decide +kernel⟩ kw_186 rfl rfl hl.1 (rest := [.ref q6, .ref o]) rfl (Nat.le_of_ble_eq_true rfl) ⟨by decide, by decide⟩ dX11_init_50 ⟨by decide, by decide⟩ (fun ad7 H locs had7 hw => ?_)
  have hw : WD g A s.heap (cl_X7 g (ad7 0) (ad7 2 0) (ad7 1 0) ((ad5 0) 0) i_X7_u ++ (cl_X4 g (ad7 1) (ad7 2 0) (ad5 1 0) i_X4_u ++ (cl_X8 g (ad7 2) (ad1 0 0) i_X8_u ++ (cl_X0 g (ad5 0) (ad5 1 0) i_X0_u ++ (cl_X5 g (ad5 1) i_X5_u i_X5_v ++ (cl_X0 g (ad3 0) (ad3 1 0) i_X0_u ++ (cl_X5 g (ad3 1) i_X5_u i_X5_v ++ (cl_X6 g (ad1 0) i_X6_u ++ ([(o, .inr (11, [.ref (ad1 0 0), .ref (ad3 0 0), .ref (ad5 0 0), .null, .null, .null, .null, .null, .null, .null, .int 0]))] ++ X))))))))) H locs := hw
  rw [← had7]
  refine tx_putF (ws' := cl_X7 g (ad7 0) (ad7 2 0) (ad7 1 0) ((ad5 0) 0) i_X7_u ++ (cl_X4 g (ad7 1) (ad7 2 0) (ad5 1 0) i_X4_u ++ (cl_X8 g (ad7 2) (ad1 0 0) i_X8_u ++ (cl_X0 g (ad5 0) (ad5 1 0) i_X0_u ++ (cl_X5 g (ad5 1) i_X5_u i_X5_v ++ (cl_X0 g (ad3 0) (ad3 1 0) i_X0_u ++ (cl_X5 g (ad3 1) i_X5_u i_X5_v ++ (cl_X6 g (ad1 0) i_X6_u ++ ([(o, .inr (11, [.ref (ad1 0 0), .ref (ad3 0 0), .ref (ad5 0 0), .ref (ad7 0 0), .null, .null, .null, .null, .null, .null, .int 0]))] ++ X))))))))) S hE hw 3 inX11 tyX11_ok nmX11 rfl (by decide) kw_472 rfl rfl hin (tyX11_ok 3 (by decide)) rfl rfl 41 rfl (Nat.le_of_ble_eq_true rfl) rfl dX11_init_53 (fun H locs hw => ?_)
  refine lv_aload_n hx hb dX11_init_56 rfl (lv_at hl 0 rfl) ?_
  refine tx_new (ci := 10) (fs := [.null, .int 0, .int 0, .int 0, .null, .null, .null, .null, .null, .null, .null, .null, .null, .null, .null, .int 0, .null]) S hE hA hw inX10 tyX10 tyX10_ok kw_278 kw_279 kw_8 rfl (fun j hj => by match j, hj with | 0, _ => rfl | 1, _ => rfl | 2, _ => rfl | 3, _ => rfl | 4, _ => rfl | 5, _ => rfl | 6, _ => rfl | 7, _ => rfl | 8, _ => rfl | 9, _ => rfl | 10, _ => rfl | 11, _ => rfl | 12, _ => rfl | 13, _ => rfl | 14, _ => rfl | 15, _ => rfl | 16, _ => rfl | k + 17, h => exact absurd h (by omega)) (by decide) (by decide) dX11_init_57 (fun q8 H hw => ?_)
  refine lv_dup hx hb dX11_init_60 rfl ?_
  refine lv_aload_n hx hb dX11_init_61 rfl (lv_at hl 0 rfl) ?_
  refine gf_X11_21 S hE hw 42 rfl rfl dX11_init_62 ?_
  refine tx_mkN (n := 1) S hE hA hw (k_X10_init (o := q8) (b1 := (ad3 0 0))) kw_280 kw_282 kw_8 ⟨by decide +kernel, by decide +kernel, by decide +kernel⟩ kw_281 rfl rfl hl.1 (rest := [.ref q8, .ref o]) rfl (Nat.le_of_ble_eq_true rfl) ⟨by decide, by decide⟩ dX11_init_65 ⟨by decide, by decide⟩ (fun ad9 H locs had9 hw => ?_)
  have hw : WD g A s.heap (cl_X10 g (ad9 0) (ad3 0 0) (ad9 1 0) i_X10_u ++ (cl_N g (ad9 1) (fun _ _ => 0) ++ (cl_X7 g (ad7 0) (ad7 2 0) (ad7 1 0) ((ad5 0) 0) i_X7_u ++ (cl_X4 g (ad7 1) (ad7 2 0) (ad5 1 0) i_X4_u ++ (cl_X8 g (ad7 2) (ad1 0 0) i_X8_u ++ (cl_X0 g (ad5 0) (ad5 1 0) i_X0_u ++ (cl_X5 g (ad5 1) i_X5_u i_X5_v ++ (cl_X0 g (ad3 0) (ad3 1 0) i_X0_u ++ (cl_X5 g (ad3 1) i_X5_u i_X5_v ++ (cl_X6 g (ad1 0) i_X6_u ++ ([(o, .inr (11, [.ref (ad1 0 0), .ref (ad3 0 0), .ref (ad5 0 0), .ref (ad7 0 0), .null, .null, .null, .null, .null, .null, .int 0]))] ++ X))))))))))) H locs := hw
  rw [← had9]
  refine tx_putF (ws' := cl_X10 g (ad9 0) (ad3 0 0) (ad9 1 0) i_X10_u ++ (cl_N g (ad9 1) (fun _ _ => 0) ++ (cl_X7 g (ad7 0) (ad7 2 0) (ad7 1 0) ((ad5 0) 0) i_X7_u ++ (cl_X4 g (ad7 1) (ad7 2 0) (ad5 1 0) i_X4_u ++ (cl_X8 g (ad7 2) (ad1 0 0) i_X8_u ++ (cl_X0 g (ad5 0) (ad5 1 0) i_X0_u ++ (cl_X5 g (ad5 1) i_X5_u i_X5_v ++ (cl_X0 g (ad3 0) (ad3 1 0) i_X0_u ++ (cl_X5 g (ad3 1) i_X5_u i_X5_v ++ (cl_X6 g (ad1 0) i_X6_u ++ ([(o, .inr (11, [.ref (ad1 0 0), .ref (ad3 0 0), .ref (ad5 0 0), .ref (ad7 0 0), .ref (ad9 0 0), .null, .null, .null, .null, .null, .int 0]))] ++ X))))))))))) S hE hw 4 inX11 tyX11_ok nmX11 rfl (by decide) kw_473 rfl rfl hin (tyX11_ok 4 (by decide)) rfl rfl 54 rfl (Nat.le_of_ble_eq_true rfl) rfl dX11_init_68 (fun H locs hw => ?_)
  refine lv_aload_n hx hb dX11_init_71 rfl (lv_at hl 0 rfl) ?_
  refine tx_new (ci := 10) (fs := [.null, .int 0, .int 0, .int 0, .null, .null, .null, .null, .null, .null, .null, .null, .null, .null, .null, .int 0, .null]) S hE hA hw inX10 tyX10 tyX10_ok kw_278 kw_279 kw_8 rfl (fun j hj => by match j, hj with | 0, _ => rfl | 1, _ => rfl | 2, _ => rfl | 3, _ => rfl | 4, _ => rfl | 5, _ => rfl | 6, _ => rfl | 7, _ => rfl | 8, _ => rfl | 9, _ => rfl | 10, _ => rfl | 11, _ => rfl | 12, _ => rfl | 13, _ => rfl | 14, _ => rfl | 15, _ => rfl | 16, _ => rfl | k + 17, h => exact absurd h (by omega)) (by decide) (by decide) dX11_init_72 (fun q10 H hw => ?_)
  refine lv_dup hx hb dX11_init_75 rfl ?_
  refine lv_aload_n hx hb dX11_init_76 rfl (lv_at hl 0 rfl) ?_
  refine gf_X11_21 S hE hw 55 rfl rfl dX11_init_77 ?_
  refine tx_mkN (n := 1) S hE hA hw (k_X10_init (o := q10) (b1 := (ad3 0 0))) kw_280 kw_282 kw_8 ⟨by decide +kernel, by decide +kernel, by decide +kernel⟩ kw_281 rfl rfl hl.1 (rest := [.ref q10, .ref o]) rfl (Nat.le_of_ble_eq_true rfl) ⟨by decide, by decide⟩ dX11_init_80 ⟨by decide, by decide⟩ (fun ad11 H locs had11 hw => ?_)
  have hw : WD g A s.heap (cl_X10 g (ad11 0) (ad3 0 0) (ad11 1 0) i_X10_u ++ (cl_N g (ad11 1) (fun _ _ => 0) ++ (cl_X10 g (ad9 0) (ad3 0 0) (ad9 1 0) i_X10_u ++ (cl_N g (ad9 1) (fun _ _ => 0) ++ (cl_X7 g (ad7 0) (ad7 2 0) (ad7 1 0) ((ad5 0) 0) i_X7_u ++ (cl_X4 g (ad7 1) (ad7 2 0) (ad5 1 0) i_X4_u ++ (cl_X8 g (ad7 2) (ad1 0 0) i_X8_u ++ (cl_X0 g (ad5 0) (ad5 1 0) i_X0_u ++ (cl_X5 g (ad5 1) i_X5_u i_X5_v ++ (cl_X0 g (ad3 0) (ad3 1 0) i_X0_u ++ (cl_X5 g (ad3 1) i_X5_u i_X5_v ++ (cl_X6 g (ad1 0) i_X6_u ++ ([(o, .inr (11, [.ref (ad1 0 0), .ref (ad3 0 0), .ref (ad5 0 0), .ref (ad7 0 0), .ref (ad9 0 0), .null, .null, .null, .null, .null, .int 0]))] ++ X))))))))))))) H locs := hw
  rw [← had11]
  refine tx_putF (ws' := cl_X10 g (ad11 0) (ad3 0 0) (ad11 1 0) i_X10_u ++ (cl_N g (ad11 1) (fun _ _ => 0) ++ (cl_X10 g (ad9 0) (ad3 0 0) (ad9 1 0) i_X10_u ++ (cl_N g (ad9 1) (fun _ _ => 0) ++ (cl_X7 g (ad7 0) (ad7 2 0) (ad7 1 0) ((ad5 0) 0) i_X7_u ++ (cl_X4 g (ad7 1) (ad7 2 0) (ad5 1 0) i_X4_u ++ (cl_X8 g (ad7 2) (ad1 0 0) i_X8_u ++ (cl_X0 g (ad5 0) (ad5 1 0) i_X0_u ++ (cl_X5 g (ad5 1) i_X5_u i_X5_v ++ (cl_X0 g (ad3 0) (ad3 1 0) i_X0_u ++ (cl_X5 g (ad3 1) i_X5_u i_X5_v ++ (cl_X6 g (ad1 0) i_X6_u ++ ([(o, .inr (11, [.ref (ad1 0 0), .ref (ad3 0 0), .ref (ad5 0 0), .ref (ad7 0 0), .ref (ad9 0 0), .ref (ad11 0 0), .null, .null, .null, .null, .int 0]))] ++ X))))))))))))) S hE hw 5 inX11 tyX11_ok nmX11 rfl (by decide) kw_474 rfl rfl hin (tyX11_ok 5 (by decide)) rfl rfl 67 rfl (Nat.le_of_ble_eq_true rfl) rfl dX11_init_83 (fun H locs hw => ?_)
  refine lv_aload_n hx hb dX11_init_86 rfl (lv_at hl 0 rfl) ?_
  refine tx_new (ci := 9) (fs := [.null, .null]) S hE hA hw inX9 tyX9 tyX9_ok kw_372 kw_373 kw_9 rfl (fun j hj => by match j, hj with | 0, _ => rfl | 1, _ => rfl | k + 2, h => exact absurd h (by omega)) (by decide) (by decide) dX11_init_87 (fun q12 H hw => ?_)
  refine lv_dup hx hb dX11_init_90 rfl ?_
  refine lv_aload_n hx hb dX11_init_91 rfl (lv_at hl 0 rfl) ?_
  refine gf_X11_21 S hE hw 68 rfl rfl dX11_init_92 ?_
  refine tx_mkN (n := 1) S hE hA hw (k_X9_init (o := q12) (b1 := (ad3 0 0))) kw_374 kw_376 kw_9 ⟨by decide +kernel, by decide +kernel, by decide +kernel⟩ kw_375 rfl rfl hl.1 (rest := [.ref q12, .ref o]) rfl (Nat.le_of_ble_eq_true rfl) ⟨by decide, by decide⟩ dX11_init_95 ⟨by decide, by decide⟩ (fun ad13 H locs had13 hw => ?_)
  have hw : WD g A s.heap (cl_X9 g (ad13 0) (ad13 1 0) i_X9_u ++ (cl_X10 g (ad13 1) (ad3 0 0) (ad13 2 0) i_X10_u ++ (cl_N g (ad13 2) (fun _ _ => 0) ++ (cl_X10 g (ad11 0) (ad3 0 0) (ad11 1 0) i_X10_u ++ (cl_N g (ad11 1) (fun _ _ => 0) ++ (cl_X10 g (ad9 0) (ad3 0 0) (ad9 1 0) i_X10_u ++ (cl_N g (ad9 1) (fun _ _ => 0) ++ (cl_X7 g (ad7 0) (ad7 2 0) (ad7 1 0) ((ad5 0) 0) i_X7_u ++ (cl_X4 g (ad7 1) (ad7 2 0) (ad5 1 0) i_X4_u ++ (cl_X8 g (ad7 2) (ad1 0 0) i_X8_u ++ (cl_X0 g (ad5 0) (ad5 1 0) i_X0_u ++ (cl_X5 g (ad5 1) i_X5_u i_X5_v ++ (cl_X0 g (ad3 0) (ad3 1 0) i_X0_u ++ (cl_X5 g (ad3 1) i_X5_u i_X5_v ++ (cl_X6 g (ad1 0) i_X6_u ++ ([(o, .inr (11, [.ref (ad1 0 0), .ref (ad3 0 0), .ref (ad5 0 0), .ref (ad7 0 0), .ref (ad9 0 0), .ref (ad11 0 0), .null, .null, .null, .null, .int 0]))] ++ X)))))))))))))))) H locs := hw
  rw [← had13]
  refine tx_putF (ws' := cl_X9 g (ad13 0) (ad13 1 0) i_X9_u ++ (cl_X10 g (ad13 1) (ad3 0 0) (ad13 2 0) i_X10_u ++ (cl_N g (ad13 2) (fun _ _ => 0) ++ (cl_X10 g (ad11 0) (ad3 0 0) (ad11 1 0) i_X10_u ++ (cl_N g (ad11 1) (fun _ _ => 0) ++ (cl_X10 g (ad9 0) (ad3 0 0) (ad9 1 0) i_X10_u ++ (cl_N g (ad9 1) (fun _ _ => 0) ++ (cl_X7 g (ad7 0) (ad7 2 0) (ad7 1 0) ((ad5 0) 0) i_X7_u ++ (cl_X4 g (ad7 1) (ad7 2 0) (ad5 1 0) i_X4_u ++ (cl_X8 g (ad7 2) (ad1 0 0) i_X8_u ++ (cl_X0 g (ad5 0) (ad5 1 0) i_X0_u ++ (cl_X5 g (ad5 1) i_X5_u i_X5_v ++ (cl_X0 g (ad3 0) (ad3 1 0) i_X0_u ++ (cl_X5 g (ad3 1) i_X5_u i_X5_v ++ (cl_X6 g (ad1 0) i_X6_u ++ ([(o, .inr (11, [.ref (ad1 0 0), .ref (ad3 0 0), .ref (ad5 0 0), .ref (ad7 0 0), .ref (ad9 0 0), .ref (ad11 0 0), .ref (ad13 0 0), .null, .null, .null, .int 0]))] ++ X)))))))))))))))) S hE hw 6 inX11 tyX11_ok nmX11 rfl (by decide) kw_475 rfl rfl hin (tyX11_ok 6 (by decide)) rfl rfl 82 rfl (Nat.le_of_ble_eq_true rfl) rfl dX11_init_98 (fun H locs hw => ?_)
  refine lv_aload_n hx hb dX11_init_101 rfl (lv_at hl 0 rfl) ?_
  refine tx_new (ci := 1) (fs := [.null, .null, .null, .int 0]) S hE hA hw inX1 tyX1 tyX1_ok kw_387 kw_388 kw_10 rfl (fun j hj => by match j, hj with | 0, _ => rfl | 1, _ => rfl | 2, _ => rfl | 3, _ => rfl | k + 4, h => exact absurd h (by omega)) (by decide) (by decide) dX11_init_102 (fun q14 H hw => ?_)
  refine lv_dup hx hb dX11_init_105 rfl ?_
  refine tx_mkN (n := 0) S hE hA hw (k_X1_init (o := q14)) kw_389 kw_391 kw_10 ⟨by decide +kernel, by decide +kernel, by decide +kernel⟩ kw_390 rfl rfl hl.1 (rest := [.ref q14, .ref o]) rfl (Nat.le_of_ble_eq_true rfl) ⟨by decide, by decide⟩ dX11_init_106 ⟨by decide, by decide⟩ (fun ad15 H locs had15 hw => ?_)
  have hw : WD g A s.heap (cl_X1 g (ad15 0) i_X1_u ++ (cl_X9 g (ad13 0) (ad13 1 0) i_X9_u ++ (cl_X10 g (ad13 1) (ad3 0 0) (ad13 2 0) i_X10_u ++ (cl_N g (ad13 2) (fun _ _ => 0) ++ (cl_X10 g (ad11 0) (ad3 0 0) (ad11 1 0) i_X10_u ++ (cl_N g (ad11 1) (fun _ _ => 0) ++ (cl_X10 g (ad9 0) (ad3 0 0) (ad9 1 0) i_X10_u ++ (cl_N g (ad9 1) (fun _ _ => 0) ++ (cl_X7 g (ad7 0) (ad7 2 0) (ad7 1 0) ((ad5 0) 0) i_X7_u ++ (cl_X4 g (ad7 1) (ad7 2 0) (ad5 1 0) i_X4_u ++ (cl_X8 g (ad7 2) (ad1 0 0) i_X8_u ++ (cl_X0 g (ad5 0) (ad5 1 0) i_X0_u ++ (cl_X5 g (ad5 1) i_X5_u i_X5_v ++ (cl_X0 g (ad3 0) (ad3 1 0) i_X0_u ++ (cl_X5 g (ad3 1) i_X5_u i_X5_v ++ (cl_X6 g (ad1 0) i_X6_u ++ ([(o, .inr (11, [.ref (ad1 0 0), .ref (ad3 0 0), .ref (ad5 0 0), .ref (ad7 0 0), .ref (ad9 0 0), .ref (ad11 0 0), .ref (ad13 0 0), .null, .null, .null, .int 0]))] ++ X))))))))))))))))) H locs := hw
  rw [← had15]
  refine tx_putF (ws' := cl_X1 g (ad15 0) i_X1_u ++ (cl_X9 g (ad13 0) (ad13 1 0) i_X9_u ++ (cl_X10 g (ad13 1) (ad3 0 0) (ad13 2 0) i_X10_u ++ (cl_N g (ad13 2) (fun _ _ => 0) ++ (cl_X10 g (ad11 0) (ad3 0 0) (ad11 1 0) i_X10_u ++ (cl_N g (ad11 1) (fun _ _ => 0) ++ (cl_X10 g (ad9 0) (ad3 0 0) (ad9 1 0) i_X10_u ++ (cl_N g (ad9 1) (fun _ _ => 0) ++ (cl_X7 g (ad7 0) (ad7 2 0) (ad7 1 0) ((ad5 0) 0) i_X7_u ++ (cl_X4 g (ad7 1) (ad7 2 0) (ad5 1 0) i_X4_u ++ (cl_X8 g (ad7 2) (ad1 0 0) i_X8_u ++ (cl_X0 g (ad5 0) (ad5 1 0) i_X0_u ++ (cl_X5 g (ad5 1) i_X5_u i_X5_v ++ (cl_X0 g (ad3 0) (ad3 1 0) i_X0_u ++ (cl_X5 g (ad3 1) i_X5_u i_X5_v ++ (cl_X6 g (ad1 0) i_X6_u ++ ([(o, .inr (11, [.ref (ad1 0 0), .ref (ad3 0 0), .ref (ad5 0 0), .ref (ad7 0 0), .ref (ad9 0 0), .ref (ad11 0 0), .ref (ad13 0 0), .ref (ad15 0 0), .null, .null, .int 0]))] ++ X))))))))))))))))) S hE hw 7 inX11 tyX11_ok nmX11 rfl (by decide) kw_476 rfl rfl hin (tyX11_ok 7 (by decide)) rfl rfl 86 rfl (Nat.le_of_ble_eq_true rfl) rfl dX11_init_109 (fun H locs hw => ?_)
  refine lv_aload_n hx hb dX11_init_112 rfl (lv_at hl 0 rfl) ?_
  refine tx_new (ci := 2) (fs := [.null, .null, .null, .null, .null, .int 0, .int 0]) S hE hA hw inX2 tyX2 tyX2_ok kw_407 kw_408 kw_11 rfl (fun j hj => by match j, hj with | 0, _ => rfl | 1, _ => rfl | 2, _ => rfl | 3, _ => rfl | 4, _ => rfl | 5, _ => rfl | 6, _ => rfl | k + 7, h => exact absurd h (by omega)) (by decide) (by decide) dX11_init_113 (fun q16 H hw => ?_)
  refine lv_dup hx hb dX11_init_116 rfl ?_
  refine tx_mkN (n := 0) S hE hA hw (k_X2_init (o := q16)) kw_409 kw_411 kw_11 ⟨by decide +kernel, by decide +kernel, by decide +kernel⟩ kw_410 rfl rfl hl.1 (rest := [.ref q16, .ref o]) rfl (Nat.le_of_ble_eq_true rfl) ⟨by decide, by decide⟩ dX11_init_117 ⟨by decide, by decide⟩ (fun ad17 H locs had17 hw => ?_)
  have hw : WD g A s.heap (cl_X2 g (ad17 0) i_X2_u ++ (cl_X1 g (ad15 0) i_X1_u ++ (cl_X9 g (ad13 0) (ad13 1 0) i_X9_u ++ (cl_X10 g (ad13 1) (ad3 0 0) (ad13 2 0) i_X10_u ++ (cl_N g (ad13 2) (fun _ _ => 0) ++ (cl_X10 g (ad11 0) (ad3 0 0) (ad11 1 0) i_X10_u ++ (cl_N g (ad11 1) (fun _ _ => 0) ++ (cl_X10 g (ad9 0) (ad3 0 0) (ad9 1 0) i_X10_u ++ (cl_N g (ad9 1) (fun _ _ => 0) ++ (cl_X7 g (ad7 0) (ad7 2 0) (ad7 1 0) ((ad5 0) 0) i_X7_u ++ (cl_X4 g (ad7 1) (ad7 2 0) (ad5 1 0) i_X4_u ++ (cl_X8 g (ad7 2) (ad1 0 0) i_X8_u ++ (cl_X0 g (ad5 0) (ad5 1 0) i_X0_u ++ (cl_X5 g (ad5 1) i_X5_u i_X5_v ++ (cl_X0 g (ad3 0) (ad3 1 0) i_X0_u ++ (cl_X5 g (ad3 1) i_X5_u i_X5_v ++ (cl_X6 g (ad1 0) i_X6_u ++ ([(o, .inr (11, [.ref (ad1 0 0), .ref (ad3 0 0), .ref (ad5 0 0), .ref (ad7 0 0), .ref (ad9 0 0), .ref (ad11 0 0), .ref (ad13 0 0), .ref (ad15 0 0), .null, .null, .int 0]))] ++ X)))))))))))))))))) H locs := hw
  rw [← had17]
  refine tx_putF (ws' := cl_X2 g (ad17 0) i_X2_u ++ (cl_X1 g (ad15 0) i_X1_u ++ (cl_X9 g (ad13 0) (ad13 1 0) i_X9_u ++ (cl_X10 g (ad13 1) (ad3 0 0) (ad13 2 0) i_X10_u ++ (cl_N g (ad13 2) (fun _ _ => 0) ++ (cl_X10 g (ad11 0) (ad3 0 0) (ad11 1 0) i_X10_u ++ (cl_N g (ad11 1) (fun _ _ => 0) ++ (cl_X10 g (ad9 0) (ad3 0 0) (ad9 1 0) i_X10_u ++ (cl_N g (ad9 1) (fun _ _ => 0) ++ (cl_X7 g (ad7 0) (ad7 2 0) (ad7 1 0) ((ad5 0) 0) i_X7_u ++ (cl_X4 g (ad7 1) (ad7 2 0) (ad5 1 0) i_X4_u ++ (cl_X8 g (ad7 2) (ad1 0 0) i_X8_u ++ (cl_X0 g (ad5 0) (ad5 1 0) i_X0_u ++ (cl_X5 g (ad5 1) i_X5_u i_X5_v ++ (cl_X0 g (ad3 0) (ad3 1 0) i_X0_u ++ (cl_X5 g (ad3 1) i_X5_u i_X5_v ++ (cl_X6 g (ad1 0) i_X6_u ++ ([(o, .inr (11, [.ref (ad1 0 0), .ref (ad3 0 0), .ref (ad5 0 0), .ref (ad7 0 0), .ref (ad9 0 0), .ref (ad11 0 0), .ref (ad13 0 0), .ref (ad15 0 0), .ref (ad17 0 0), .null, .int 0]))] ++ X)))))))))))))))))) S hE hw 8 inX11 tyX11_ok nmX11 rfl (by decide) kw_477 rfl rfl hin (tyX11_ok 8 (by decide)) rfl rfl 92 rfl (Nat.le_of_ble_eq_true rfl) rfl dX11_init_120 (fun H locs hw => ?_)
  refine lv_aload_n hx hb dX11_init_123 rfl (lv_at hl 0 rfl) ?_
  refine tx_new (ci := 3) (fs := [.null, .int 0, .int 0, .int 0]) S hE hA hw inX3 tyX3 tyX3_ok kw_437 kw_438 kw_12 rfl (fun j hj => by match j, hj with | 0, _ => rfl | 1, _ => rfl | 2, _ => rfl | 3, _ => rfl | k + 4, h => exact absurd h (by omega)) (by decide) (by decide) dX11_init_124 (fun q18 H hw => ?_)
  refine lv_dup hx hb dX11_init_127 rfl ?_
  refine tx_mkN (n := 0) S hE hA hw (k_X3_init (o := q18)) kw_439 kw_441 kw_12 ⟨by decide +kernel, by decide +kernel, by decide +kernel⟩ kw_440 rfl rfl hl.1 (rest := [.ref q18, .ref o]) rfl (Nat.le_of_ble_eq_true rfl) ⟨by decide, by decide⟩ dX11_init_128 ⟨by decide, by decide⟩ (fun ad19 H locs had19 hw => ?_)
  have hw : WD g A s.heap (cl_X3 g (ad19 0) i_X3_u ++ (cl_X2 g (ad17 0) i_X2_u ++ (cl_X1 g (ad15 0) i_X1_u ++ (cl_X9 g (ad13 0) (ad13 1 0) i_X9_u ++ (cl_X10 g (ad13 1) (ad3 0 0) (ad13 2 0) i_X10_u ++ (cl_N g (ad13 2) (fun _ _ => 0) ++ (cl_X10 g (ad11 0) (ad3 0 0) (ad11 1 0) i_X10_u ++ (cl_N g (ad11 1) (fun _ _ => 0) ++ (cl_X10 g (ad9 0) (ad3 0 0) (ad9 1 0) i_X10_u ++ (cl_N g (ad9 1) (fun _ _ => 0) ++ (cl_X7 g (ad7 0) (ad7 2 0) (ad7 1 0) ((ad5 0) 0) i_X7_u ++ (cl_X4 g (ad7 1) (ad7 2 0) (ad5 1 0) i_X4_u ++ (cl_X8 g (ad7 2) (ad1 0 0) i_X8_u ++ (cl_X0 g (ad5 0) (ad5 1 0) i_X0_u ++ (cl_X5 g (ad5 1) i_X5_u i_X5_v ++ (cl_X0 g (ad3 0) (ad3 1 0) i_X0_u ++ (cl_X5 g (ad3 1) i_X5_u i_X5_v ++ (cl_X6 g (ad1 0) i_X6_u ++ ([(o, .inr (11, [.ref (ad1 0 0), .ref (ad3 0 0), .ref (ad5 0 0), .ref (ad7 0 0), .ref (ad9 0 0), .ref (ad11 0 0), .ref (ad13 0 0), .ref (ad15 0 0), .ref (ad17 0 0), .null, .int 0]))] ++ X))))))))))))))))))) H locs := hw
  rw [← had19]
  refine tx_putF (ws' := cl_X3 g (ad19 0) i_X3_u ++ (cl_X2 g (ad17 0) i_X2_u ++ (cl_X1 g (ad15 0) i_X1_u ++ (cl_X9 g (ad13 0) (ad13 1 0) i_X9_u ++ (cl_X10 g (ad13 1) (ad3 0 0) (ad13 2 0) i_X10_u ++ (cl_N g (ad13 2) (fun _ _ => 0) ++ (cl_X10 g (ad11 0) (ad3 0 0) (ad11 1 0) i_X10_u ++ (cl_N g (ad11 1) (fun _ _ => 0) ++ (cl_X10 g (ad9 0) (ad3 0 0) (ad9 1 0) i_X10_u ++ (cl_N g (ad9 1) (fun _ _ => 0) ++ (cl_X7 g (ad7 0) (ad7 2 0) (ad7 1 0) ((ad5 0) 0) i_X7_u ++ (cl_X4 g (ad7 1) (ad7 2 0) (ad5 1 0) i_X4_u ++ (cl_X8 g (ad7 2) (ad1 0 0) i_X8_u ++ (cl_X0 g (ad5 0) (ad5 1 0) i_X0_u ++ (cl_X5 g (ad5 1) i_X5_u i_X5_v ++ (cl_X0 g (ad3 0) (ad3 1 0) i_X0_u ++ (cl_X5 g (ad3 1) i_X5_u i_X5_v ++ (cl_X6 g (ad1 0) i_X6_u ++ ([(o, .inr (11, [.ref (ad1 0 0), .ref (ad3 0 0), .ref (ad5 0 0), .ref (ad7 0 0), .ref (ad9 0 0), .ref (ad11 0 0), .ref (ad13 0 0), .ref (ad15 0 0), .ref (ad17 0 0), .ref (ad19 0 0), .int 0]))] ++ X))))))))))))))))))) S hE hw 9 inX11 tyX11_ok nmX11 rfl (by decide) kw_478 rfl rfl hin (tyX11_ok 9 (by decide)) rfl rfl 94 rfl (Nat.le_of_ble_eq_true rfl) rfl dX11_init_131 (fun H locs hw => ?_)
  refine lv_aload_n hx hb dX11_init_134 rfl (lv_at hl 0 rfl) ?_
  refine gf_X11_42 S hE hw 94 rfl rfl dX11_init_135 ?_
  refine lv_aload_n hx hb dX11_init_138 rfl (lv_at hl 0 rfl) ?_
  refine gf_X11_21 S hE hw 94 rfl rfl dX11_init_139 ?_
  have hw := hw.u15
  have hw := hw.u9
  refine tx_cv hw (tx_runN S hE hw (c_X10_begin hf0) lk_X11_77 (q0 := 0) rfl rfl rfl hl.1 (rest := []) rfl (Nat.le_of_ble_eq_true rfl) ⟨by decide, by decide⟩ dX11_init_142 ⟨by decide, by decide⟩) (fun H locs hw => ?_)
  have hw : WD g A s.heap (cl_X10 g (ad9 0) ((ad3 0) 0) (ad9 1 0) u20 ++ (cl_X0 g (ad3 0) (ad3 1 0) i_X0_u ++ (cl_X3 g (ad19 0) i_X3_u ++ (cl_X2 g (ad17 0) i_X2_u ++ (cl_X1 g (ad15 0) i_X1_u ++ (cl_X9 g (ad13 0) (ad13 1 0) i_X9_u ++ (cl_X10 g (ad13 1) (ad3 0 0) (ad13 2 0) i_X10_u ++ (cl_N g (ad13 2) (fun _ _ => 0) ++ (cl_X10 g (ad11 0) (ad3 0 0) (ad11 1 0) i_X10_u ++ (cl_N g (ad11 1) (fun _ _ => 0) ++ (cl_N g (ad9 1) (fun _ _ => 0) ++ (cl_X7 g (ad7 0) (ad7 2 0) (ad7 1 0) ((ad5 0) 0) i_X7_u ++ (cl_X4 g (ad7 1) (ad7 2 0) (ad5 1 0) i_X4_u ++ (cl_X8 g (ad7 2) (ad1 0 0) i_X8_u ++ (cl_X0 g (ad5 0) (ad5 1 0) i_X0_u ++ (cl_X5 g (ad5 1) i_X5_u i_X5_v ++ (cl_X5 g (ad3 1) i_X5_u i_X5_v ++ (cl_X6 g (ad1 0) i_X6_u ++ ([(o, .inr (11, [.ref (ad1 0 0), .ref (ad3 0 0), .ref (ad5 0 0), .ref (ad7 0 0), .ref (ad9 0 0), .ref (ad11 0 0), .ref (ad13 0 0), .ref (ad15 0 0), .ref (ad17 0 0), .ref (ad19 0 0), .int 0]))] ++ X))))))))))))))))))) H locs := hw
  have hw := hw.u18
  obtain ⟨a_T, hw, ho⟩ : ∃ a_T : Nat → Nat, WD g A s.heap (cl_X11 g a_T (ad1 0 0) (ad3 0 0) (ad5 0 0) (ad7 0 0) (ad9 0 0) (ad11 0 0) (ad13 0 0) (ad15 0 0) (ad17 0 0) (ad19 0 0) i_X11_u ++ (cl_X10 g (ad9 0) ((ad3 0) 0) (ad9 1 0) u20 ++ (cl_X0 g (ad3 0) (ad3 1 0) i_X0_u ++ (cl_X3 g (ad19 0) i_X3_u ++ (cl_X2 g (ad17 0) i_X2_u ++ (cl_X1 g (ad15 0) i_X1_u ++ (cl_X9 g (ad13 0) (ad13 1 0) i_X9_u ++ (cl_X10 g (ad13 1) (ad3 0 0) (ad13 2 0) i_X10_u ++ (cl_N g (ad13 2) (fun _ _ => 0) ++ (cl_X10 g (ad11 0) (ad3 0 0) (ad11 1 0) i_X10_u ++ (cl_N g (ad11 1) (fun _ _ => 0) ++ (cl_N g (ad9 1) (fun _ _ => 0) ++ (cl_X7 g (ad7 0) (ad7 2 0) (ad7 1 0) ((ad5 0) 0) i_X7_u ++ (cl_X4 g (ad7 1) (ad7 2 0) (ad5 1 0) i_X4_u ++ (cl_X8 g (ad7 2) (ad1 0 0) i_X8_u ++ (cl_X0 g (ad5 0) (ad5 1 0) i_X0_u ++ (cl_X5 g (ad5 1) i_X5_u i_X5_v ++ (cl_X5 g (ad3 1) i_X5_u i_X5_v ++ (cl_X6 g (ad1 0) i_X6_u ++ X))))))))))))))))))) H locs ∧ a_T 0 = o := ⟨fun k => [o, 0, 0, 0, 0, 0, 0, 0, 0, 0, 0, 0].getD k 0, hw, rfl⟩
  exact tx_vretC S hr hlk (fun i => [a_T, ad9 0, ad3 0, ad19 0, ad17 0, ad15 0, ad13 0, ad13 1, ad13 2, ad11 0, ad11 1, ad9 1, ad7 0, ad7 1, ad7 2, ad5 0, ad5 1, ad3 1, ad1 0].getD i (fun _ => 0)) ho hw (by decide) (by decide) dX11_init_145
