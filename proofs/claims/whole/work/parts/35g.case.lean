/-! the law's case of thought -/
theorem tx_goodH {kc w0 : Cond} (hc : w0 ∈ allW) : GoodIn (kc :: allW) (w0 :: allW) := by
  intro w hw
  rcases List.mem_cons.mp hw with rfl | h
  · exact ⟨List.mem_cons_of_mem _ hc, allW_good hc⟩
  · exact ⟨List.mem_cons_of_mem _ h, allW_good h⟩
theorem i32_0 : (0 : Int32).toNatClampNeg = 0 := rfl
set_option maxHeartbeats 8000000 in
set_option maxRecDepth 100000 in
theorem law_4 {p : Program} {l : Launch} {e : Env} {s : State} {m : MethodId} {below : List Frame} {meth : Method} {c : Code} {g : GG} {fu b L qo q1 q2 : Nat} {xs : Nat → Int32} {kc : Cond} (hl9 : l.stackTraces = false) (S : CallFix p m c code 7 s #[Value.ref b] (kc :: allW) RL) (hE : EN g (fun q : Nat => s.heap.size ≤ q) s) (hX : EX (fun q : Nat => s.heap.size ≤ q) q1 q2 s) (hXs : va_X b L xs s s.heap) (hbl : b < s.heap.size) (hL : L ≤ 3072) (sp : SP4 RR fu) : law4 RR p l e s m below meth c g b qo L := by
  intro i h6 kk a q U V fo H locs ls cells slots hR hw hl hc hs
  have hx := S.1
  have hb := S.2.1
  have hts : ∀ w ∈ allW, w.before #[Value.ref b] s = true := fun w h => S.2.2.2.2 w (List.mem_cons_of_mem _ h)
  have hi1 : vp_in (nI i + (1 : Int32)) L := law_ix hL h6 1 (by decide)
  have hi2 : vp_in (nI i + (2 : Int32)) L := law_ix hL h6 2 (by decide)
  obtain ⟨r0, r, bb, fo', zu_M, hI, hck, hk, hm, hth, hv, hR1⟩ := sp (lawK a) q U V fo (xs (nI i + (1 : Int32)).toNatClampNeg) (xs (nI i + (2 : Int32)).toNatClampNeg) hR
  unfold lawW lawO at hw
  refine lv_aload_n hx hb dL_law_388 rfl (lv_at hl 1 rfl) ?_
  refine lv_aload_n hx hb dL_law_389 rfl (lv_at hl 0 rfl) ?_
  refine lv_iload hx hb dL_law_390 (lv_at hl 4 rfl) ?_
  refine lv_iconst (v := 1) hx hb dL_law_392 (by decide) ?_
  refine lv_iadd hx hb dL_law_393 ?_
  refine va_sld hx hb hXs hbl (Nat.not_le.mpr hbl) hw.2.2 hi1 dL_law_394 ?_
  refine lv_aload_n hx hb dL_law_395 rfl (lv_at hl 0 rfl) ?_
  refine lv_iload hx hb dL_law_396 (lv_at hl 4 rfl) ?_
  refine lv_iconst (v := 2) hx hb dL_law_398 (by decide) ?_
  refine lv_iadd hx hb dL_law_399 ?_
  refine va_sld hx hb hXs hbl (Nat.not_le.mpr hbl) hw.2.2 hi2 dL_law_400 ?_
  refine lv_aload_n hx hb dL_law_401 rfl (lv_at hl 3 rfl) ?_
  have hw := hw.u20
  have hw := hw.u2
  have hw := hw.u3
  have hw := hw.u3
  have hrun := vx_runSX (p := p) (l := l) (e := e) (R := room_1) (below := below) (meth := meth) (H := H) (locs := locs) (cells := cells) (slots := slots) (As := [.ref (a 0 0), .int (xs (nI i + (1 : Int32)).toNatClampNeg), .int (xs (nI i + (2 : Int32)).toNatClampNeg), .ref qo]) (rest := []) (g := F0 m 402 ls [.ref qo, .int (xs (nI i + (2 : Int32)).toNatClampNeg), .int (xs (nI i + (1 : Int32)).toNatClampNeg), .ref (a 0 0)]) S (c_L_thought (l := l) hl9 (a_T := a 0) (a_B := a 2) (a_W := a 1) (qo := qo) hI hck hk) ⟨⟨rfl, rfl, by decide, by decide, pay_in S.2.2.2.2 (tx_goodH tw_codeL), List.mem_cons_self⟩, hts _ tw_codeL, hts _ kw_0, ⟨by decide +kernel, by decide +kernel⟩, fun sig h => by
      have h2 : (parseMethodDescriptor yL_thought.desc).map (fun d => d.parameters.length) = some 4 := by decide +kernel
      rw [h] at h2
      exact (Option.some.inj h2).symm, hts _ tw_l39, hts _ tw_st39⟩ ⟨tx_blindX, tx_PREX hE hX hw⟩ rfl rfl hl.1 rfl (lv_room (Nat.le_of_ble_eq_true rfl)) dL_law_402 ⟨Nat.le_trans (Nat.succ_le_succ hc) (by show 200 + i + 1 ≤ 601024; omega), Nat.le_trans (Nat.add_le_add_right hs 6) (by show 6000 + 2 * i + 6 ≤ 7293034; omega)⟩
  refine vx_calli hrun hw.2.2 (fun _ _ h => h) (fun _ h => h) (fun _ _ h => h) (fun E ce q9 u t H1 locs1 ht ha hp hB hz hq hS hce hcv hcl => hp.elim) (fun r2 u t H1 locs1 ht ha hp hB hz hq hS => ?_)
  subst hp
  have hw : WD g _ s.heap _ H1 locs1 := ⟨by rw [← ht]; exact hB.1, hB.2, hS⟩
  refine lv_istore (lv' := [(5, .int r2), (0, .ref b), (1, .ref (a 0 0)), (2, .ref (a 19 0)), (3, .ref qo), (4, .int (nI i))]) hx hb dL_law_405 hl (by decide) rfl (fun ls hl => ?_)
  refine lv_aload_n hx hb dL_law_407 rfl (lv_at hl 3 rfl) ?_
  refine lv_aload_n hx hb dL_law_408 rfl (lv_at hl 1 rfl) ?_
  refine lv_iload hx hb dL_law_409 (lv_at hl 5 rfl) ?_
  refine lv_iconst (v := 1) hx hb dL_law_411 (by decide) ?_
  refine lv_iadd hx hb dL_law_412 ?_
  refine va_sld hx hb hXs hbl (Nat.not_le.mpr hbl) hw.2.2 hi1 dL_law_413 ?_
  refine lv_aload_n hx hb dL_law_414 rfl (lv_at hl 1 rfl) ?_
  refine lv_iload hx hb dL_law_415 (lv_at hl 5 rfl) ?_
  refine lv_iconst (v := 2) hx hb dL_law_417 (by decide) ?_
  refine lv_iadd hx hb dL_law_418 ?_
  refine va_sld hx hb hXs hbl (Nat.not_le.mpr hbl) hw.2.2 hi2 dL_law_419 ?_
  have hcs : cells + 1 ≤ room_1.cells ∧ slots + 6 ≤ room_1.slots := ⟨Nat.le_trans (Nat.succ_le_succ hc) (by show 200 + i + 1 ≤ 601024; omega), Nat.le_trans (Nat.add_le_add_right hs 6) (by show 6000 + 2 * i + 6 ≤ 7293034; omega)⟩
  have hw := hw.u20
  refine tx_ci hw (tx_runV S hE hw (c_X12_thought hm) lk_L_44 (q0 := 0) rfl rfl rfl hl.1 (rest := []) rfl (Nat.le_of_ble_eq_true rfl) ⟨by decide, by decide⟩ dL_law_420 hcs) (fun H locs hw => ?_)
  refine lv_istore (lv' := [(6, .int bb), (5, .int r2), (0, .ref b), (1, .ref (a 0 0)), (2, .ref (a 19 0)), (3, .ref qo), (4, .int (nI i))]) hx hb dL_law_423 hl (by decide) rfl (fun ls hl => ?_)
  refine lv_aload_n hx hb dL_law_425 rfl (lv_at hl 4 rfl) ?_
  refine tx_ci hw (tx_runV S hE hw (c_X12_thrown hth) lk_L_45 (q0 := 0) rfl rfl rfl hl.1 (rest := []) rfl (Nat.le_of_ble_eq_true rfl) ⟨by decide, by decide⟩ dL_law_426 hcs) (fun H locs hw => ?_)
  have hw := hw.u4
  have fin : ∀ {H : Heap} {locs : List Loc}, WD g (fun q : Nat => s.heap.size ≤ q) s.heap (lawW g a q (va_up U 19 zu_M) V (lawO g qo fo')) H locs → W p l e room_1 s m #[Value.ref b] below meth c H locs (cells + 1) (slots + 6) (lw_Z below #[Value.ref b] s) (F0 m 453 ls []) := by
    intro H locs hw
    refine lv_goto (tgt := 1567) hx hb dL_law_453 (by decide) ?_
    exact kk a q (va_up U 19 zu_M) V fo' H locs ls (cells + 1) (slots + 6) hR1 hw (lv_sub hl [2, 3, 4, 5, 6] rfl) (by omega) (by omega)
  have back : ∀ {H : Heap} {locs : List Loc}, WD g (fun q : Nat => s.heap.size ≤ q) s.heap ([(qo, .inl (g.2.1 2, 1, .inr (.inl fo')))] ++ (cl_X12 g (a 19) zu_M (V 19) ++ (cl_X11 g (a 0) (a 18 0) (a 2 0) (a 15 0) (a 12 0) (a 1 0) (a 9 0) (a 6 0) (a 5 0) (a 4 0) (a 3 0) (U 0) ++ (cl_X0 g (a 2) (a 17 0) (U 2) ++ (cl_X10 g (a 1) (a 2 0) (a 11 0) (U 1) ++ (cl_X3 g (a 3) (U 3) ++ (cl_X2 g (a 4) (U 4) ++ (cl_X1 g (a 5) (U 5) ++ (cl_X9 g (a 6) (a 7 0) (U 6) ++ (cl_X10 g (a 7) (q 1) (a 8 0) (U 7) ++ (cl_N g (a 8) (V 8) ++ (cl_X10 g (a 9) (q 0) (a 10 0) (U 9) ++ (cl_N g (a 10) (V 10) ++ (cl_N g (a 11) (V 11) ++ (cl_X7 g (a 12) (a 14 0) (a 13 0) (q 2) (U 12) ++ (cl_X4 g (a 13) (a 14 0) (q 3) (U 13) ++ (cl_X8 g (a 14) (a 18 0) (U 14) ++ (cl_X0 g (a 15) (a 16 0) (U 15) ++ (cl_X5 g (a 16) (U 16) (V 16) ++ (cl_X5 g (a 17) (U 17) (V 17) ++ (cl_X6 g (a 18) (U 18) ++ []))))))))))))))))))))) H locs → WD g (fun q : Nat => s.heap.size ≤ q) s.heap (lawW g a q (va_up U 19 zu_M) V (lawO g qo fo')) H locs := fun hw => hw.u1.u20.u20.u20.u20.u20.u20.u20.u20.u20.u20.u20.u20.u20.u20.u20.u20.u19.u20.u20
  refine lv_iload hx hb dL_law_429 (lv_at hl 1 rfl) ?_
  refine lv_icmp_eq (tgt := 436) hx hb dL_law_431 (by decide) (fun _ => ?_) (fun h => absurd rfl h)
  refine lv_iload hx hb dL_law_436 (lv_at hl 1 rfl) ?_
  refine lv_if_ne (tgt := 453) hx hb dL_law_438 (by decide) (fun _ => ?_) (fun h => ?_)
  · exact fin (back hw)
  · refine lv_aload_n hx hb dL_law_441 rfl (lv_at hl 5 rfl) ?_
    refine lv_iconst (v := 0) hx hb dL_law_442 (by decide) ?_
    refine tx_lald S hE hw 0 rfl (show vp_in (nI 0) 1 from vp_in_nI (by omega) (by omega)) dL_law_443 ?_
    refine lv_iload hx hb dL_law_444 (lv_at hl 0 rfl) ?_
    refine lv_i2l hx hb dL_law_446 rfl ?_
    refine W.lcmp hx hb dL_law_447 ?_
    refine lv_if_eq (tgt := 453) hx hb dL_law_448 (by decide) (fun _ => ?_) (fun z => absurd ?_ z)
    · exact fin (back hw)
    · rw [i32_0, hv h]
      exact tx_cmpr _
