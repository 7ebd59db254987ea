/-! the rate that brings most -/
theorem i32_a4 (a b c d : Int32) : a + b + (c + d) = a + c + (b + d) := by grind
theorem i32_as (a b : Int32) : a + b - a = b := by grind
theorem fd_mo {W W' : S32} {np k : Nat} (h : mo W W' np k) : ∀ (m t : Nat) (x : Int32) (c0 : Nat), t + m = np → ∃ C, C ≤ c0 + 999 * k * m ∧ fd (fun (t : Nat) (a : Int32) => a + W' 7 t) m t (x + nI c0) = fd (fun (t : Nat) (a : Int32) => a + W 7 t) m t x + nI C := by
  intro m
  induction m with
  | zero => intro t x c0 _; exact ⟨c0, by omega, rfl⟩
  | succ m ih =>
    intro t x c0 ht
    obtain ⟨c, hc, e⟩ := h t (by omega)
    obtain ⟨C, h1, h2⟩ := ih (t + 1) (x + W 7 t) (c0 + c) (by omega)
    refine ⟨C, ?_, ?_⟩
    · rw [Nat.mul_succ]; omega
    · show fd _ m (t + 1) (x + nI c0 + W' 7 t) = fd _ m (t + 1) (x + W 7 t) + nI C
      rw [← h2, e, i32_a4, nI_add]
theorem sP_mo {W W' : S32} {np k : Nat} (h : mo W W' np k) (hk : k ≤ 100) (hn : np ≤ 6) : ∃ C, C < 2 ^ 30 ∧ sP W' np - sP W np = nI C := by
  obtain ⟨C, h1, h2⟩ := fd_mo h np 0 0 0 (by omega)
  refine ⟨C, ?_, ?_⟩
  · have : 999 * k * np ≤ 999 * 100 * 6 := Nat.mul_le_mul (Nat.mul_le_mul (Nat.le_refl _) hk) hn
    omega
  · have e : (0 : Int32) + nI 0 = 0 := rfl
    rw [e] at h2
    unfold sP
    rw [h2, i32_as]
theorem mo.c {W W' W0 : S32} {np k : Nat} (h : mo W W' np k) (e : ∀ p, p < np → W 7 p = W0 7 p) : mo W0 W' np k := fun p hp => by
  obtain ⟨c, h1, h2⟩ := h p hp
  exact ⟨c, h1, by rw [h2, e p hp]⟩
/-- one trial with a rate -/
theorem br_one (fu : Nat) (hf : 1000 ≤ fu) {B L W0 M0 : S32} {v0 : S64} {np nt nr w n : Nat} (hN : NW B L W0 M0 np nt nr w) (hn : n ≤ 100) {T : S32} (hT : T 0 15 = 0 ∨ T 0 15 = 1) (vL vN : S64) {i : Nat} (hi : i ≤ 100) :
    ∃ Wc W' vL' vN' C, f_X10_copy fu W0 T = some Wc ∧ f_X10_goWeeks fu B L (up2 (up2 Wc 0 2 (nI i)) 0 15 0) vL vN (nI n) 0 = some (W', vL', vN') ∧ (W' 0 15 = 0 ∨ W' 0 15 = 1) ∧ C < 2 ^ 30 ∧ sP W' np - sP W0 np = nI C ∧
      ∀ (M : S32) (v : S64) (j : Nat), PF M0 M → v 0 59 = v0 0 59 → v 0 80 = v0 0 80 → (j = i ∨ W' 0 15 = 0) → ∃ Ml M' v', f_X12_layTried fu v M = some Ml ∧ f_X12_goMany fu (up2 Ml 58 1 (nI j)) v (nI n) = some (M', v') ∧ TI M0 v0 W' M' v' ∧ f_X12_paidAll fu M' v' 1 = some (sP W' np) ∧ f_X12_paidAll fu M' v' 0 = some (sP W0 np) := by
  obtain ⟨⟨hnp, hnt, hnr⟩, ⟨b1, m1⟩, -⟩ := id hN.1
  obtain ⟨Wc, -, c1, -⟩ := tr_lay fu hf hN v0 T hT
  have run : ∀ (M : S32) (v : S64) (j : Nat), PF M0 M → v 0 59 = v0 0 59 → v 0 80 = v0 0 80 → ∃ W' vL' vN', f_X10_goWeeks fu B L (up2 (up2 Wc 0 2 (nI i)) 0 15 0) vL vN (nI n) 0 = some (W', vL', vN') ∧ (W' 0 15 = 0 ∨ W' 0 15 = 1) ∧ mo W0 W' np n ∧ ((j = i ∨ W' 0 15 = 0) → ∃ Ml M' v', f_X12_layTried fu v M = some Ml ∧ f_X12_goMany fu (up2 Ml 58 1 (nI j)) v (nI n) = some (M', v') ∧ TI M0 v0 W' M' v' ∧ f_X12_paidAll fu M' v' 1 = some (sP W' np) ∧ f_X12_paidAll fu M' v' 0 = some (sP W0 np)) := by
    intro M v j hP h59 h80
    obtain ⟨Wd, Ml, d1, d2, d3, d4, d5, d6, d7, d8, d9, d10, d11, -⟩ := tr_lay fu hf (hN.pf hP) v T hT
    rw [c1] at d1
    injection d1 with d1
    subst d1
    have hW : WR B L (up2 (up2 Wc 0 2 (nI i)) 0 15 0) (up2 Ml 58 1 (nI j)) 1 np nt nr 99 (fun p => p < np) := ((d5.rate hi).f (Or.inr ⟨rfl, Or.inl rfl⟩)).u58 1 (nI j)
    obtain ⟨W', vL', vN', a1, a2, a3, a4, ⟨Mp, vp, p1, -, -⟩, a6⟩ := many fu hf (x3 := 0) hn n 0 w _ vL vN _ v fu fu (by have := hN.2.2.2.1; omega) hW ⟨d4.1, Or.inl rfl⟩ d4.2.2.2.2.1 (d6.c rfl rfl rfl) (by omega) (by omega) (by omega)
    refine ⟨W', vL', vN', a1, p1.2.2.2.2.2.2, a4.2.c (fun p hp => (d11 p (by omega)).2.2.1), fun hj => ?_⟩
    obtain ⟨M', v', e1, e2, e3, e4, e5⟩ := a6 (by
      rcases hj with rfl | hj
      · left; rw [up2_i _ _ _ (by decide), up2_e, up2_e]
      · exact Or.inr hj)
    have hP' : PF M0 M' := ((hP.trans d3).trans ((PF.refl Ml).up _ (show rl 58 1 = false by decide))).trans e5.pf
    obtain ⟨s1, s2, s3, s4⟩ := sums fu hf (hN.pf hP') e2 v'
    exact ⟨Ml, M', v', d2, e1, ⟨hP', ((e4.2.2 rfl).1).trans h59, (e4.2.1 80 (by decide)).trans h80, e2.2.2.2.2.2.2⟩, s1, s3⟩
  obtain ⟨W', vL', vN', g1, g2, g3, g4⟩ := run M0 v0 i (PF.refl _) rfl rfl
  obtain ⟨C, hC, eC⟩ := sP_mo g3 hn hnp
  refine ⟨Wc, W', vL', vN', C, c1, g1, g2, hC, eC, fun M v j hP h59 h80 hj => ?_⟩
  obtain ⟨W2, vL2, vN2, k1, k2, k3, k4⟩ := run M v j hP h59 h80
  rw [g1] at k1
  injection k1 with k1
  injection k1 with e k1
  subst e
  exact k4 hj
theorem br_rest (fu : Nat) (hf : 1000 ≤ fu) {W0 M0 : S32} {v0 : S64} {np n C : Nat} (hC : C < 2 ^ 30) {W' : S32} (eC : sP W' np - sP W0 np = nI C) (y2 : Int32) {bb : Nat} (hbb : bb < 2 ^ 31) {most : Int32} (hm : nI C ≤ most)
    (step : ∀ (M : S32) (v : S64) (j : Nat), PF M0 M → v 0 59 = v0 0 59 → v 0 80 = v0 0 80 → ∃ Ml M' v', f_X12_layTried fu v M = some Ml ∧ f_X12_goMany fu (up2 Ml 58 1 (nI j)) v (nI n) = some (M', v') ∧ TI M0 v0 W' M' v' ∧ f_X12_paidAll fu M' v' 1 = some (sP W' np) ∧ f_X12_paidAll fu M' v' 0 = some (sP W0 np)) :
    ∀ (m j : Nat) (M : S32) (v : S64) (nf : Nat), TI M0 v0 W' M v → j + m = 101 → m < nf → ∃ M' v', f_X12_bestRate_L34 fu nf M v (nI n) y2 (nI bb) most (nI j) = (if y2 = 0 then some (nI bb, M', v') else some (most, M', v')) ∧ TI M0 v0 W' M' v' := by
  intro m
  induction m with
  | zero =>
    intro j M v nf hT hj hn
    obtain ⟨nf, rfl⟩ := pos_ex hn
    have : j = 101 := by omega
    subst this
    refine ⟨M, v, ?_, hT⟩
    show f_X12_bestRate_J34 _ _ _ _ _ _ _ _ _ = _
    unfold f_X12_bestRate_J34
    rw [if_pos (by decide)]
  | succ m ih =>
    intro j M v nf hT hj hn
    obtain ⟨nf, rfl⟩ := pos_ex hn
    obtain ⟨Ml, M1, v1, a1, a2, a3, a4, a5⟩ := step M v j hT.1 hT.2.1 hT.2.2.1
    obtain ⟨M', v', g1, g2⟩ := ih (j + 1) M1 v1 nf a3 (by omega) (by omega)
    refine ⟨M', v', ?_, g2⟩
    rw [← g1]
    show f_X12_bestRate_J34 _ _ _ _ _ _ _ _ _ = _
    unfold f_X12_bestRate_J34 f_X12_bestRate_J92
    have a2' : f_X12_goMany fu (up2 Ml 58 (1 : Int32).toNatClampNeg (nI j)) v (nI n) = some (M1, v1) := a2
    rw [if_neg (show ¬ (100 : Int32) < nI j from nI_nlt (a := 100) (by omega) (by omega)), a1, tx_b1_q, tx_let_q, a2', tx_b2_q, a4, a5, tx_b1_q, tx_b1_q, tx_let_q, eC, if_neg (nI_pos hbb), if_neg (Int32.not_lt.mpr hm), tx_let_q, nI_1]
theorem br_loop (fu : Nat) (hf : 1000 ≤ fu) {B L W0 M0 : S32} {v0 : S64} {np nt nr w n : Nat} (hN : NW B L W0 M0 np nt nr w) (hn : n ≤ 100) (Y : S32) (p0 k0 : Nat) (y2 : Int32) : ∀ (m i : Nat) (T : S32) (vL vN : S64) (q : Nat) (M : S32) (v : S64) (ch mc best mr : Int32) (nc nf : Nat), TI M0 v0 T M v → ((i = 0 ∧ ch = 0 ∧ mc = -1 ∧ best = -1) ∨ (∃ bb, bb < 2 ^ 31 ∧ best = nI bb ∧ ch = best ∧ mc = mr)) → i + m = 101 → m < nc → m < nf →
    (m = 0 → ∃ bb, bb < 2 ^ 31 ∧ best = nI bb ∧ ch = best ∧ mc = mr) →
    ∃ r T' vL' vN' q' M' v', f_X9_rateOfMost_L9 fu Y W0 B L p0 k0 nc T vL vN q (nI n) y2 ch mc (nI i) = some (r, T', vL', vN', q') ∧ f_X12_bestRate_L34 fu nf M v (nI n) y2 best mr (nI i) = some (r, M', v') ∧ TI M0 v0 T' M' v' := by
  obtain ⟨⟨hnp, hnt, hnr⟩, ⟨b1, m1⟩, -⟩ := id hN.1
  intro m
  induction m with
  | zero =>
    intro i T vL vN q M v ch mc best mr nc nf hT hs hi hc hf2 h0
    obtain ⟨nc, rfl⟩ := pos_ex hc
    obtain ⟨nf, rfl⟩ := pos_ex hf2
    have : i = 101 := by omega
    subst this
    obtain ⟨bb, hbb, rfl, rfl, rfl⟩ := h0 rfl
    have C : f_X9_rateOfMost_L9 fu Y W0 B L p0 k0 (nc + 1) T vL vN q (nI n) y2 (nI bb) mc (nI 101) = if y2 = 0 then some (nI bb, T, vL, vN, q) else some (mc, T, vL, vN, q) := by
      show f_X9_rateOfMost_J9 _ _ _ _ _ _ _ _ _ _ _ _ _ _ _ _ _ = _
      unfold f_X9_rateOfMost_J9 f_X9_rateOfMost_J109
      rw [if_pos (by decide)]
    have R : f_X12_bestRate_L34 fu (nf + 1) M v (nI n) y2 (nI bb) mc (nI 101) = if y2 = 0 then some (nI bb, M, v) else some (mc, M, v) := by
      show f_X12_bestRate_J34 _ _ _ _ _ _ _ _ _ = _
      unfold f_X12_bestRate_J34
      rw [if_pos (by decide)]
    rw [C, R]
    by_cases e : y2 = 0
    · rw [if_pos e, if_pos e]; exact ⟨_, _, _, _, _, _, _, rfl, rfl, hT⟩
    · rw [if_neg e, if_neg e]; exact ⟨_, _, _, _, _, _, _, rfl, rfl, hT⟩
  | succ m ih =>
    intro i T vL vN q M v ch mc best mr nc nf hT hs hi hc hf2 h0
    obtain ⟨nc, rfl⟩ := pos_ex hc
    obtain ⟨nf, rfl⟩ := pos_ex hf2
    obtain ⟨Wc, W', vL', vN', C, a1, a2, a3, hC, eC, a6⟩ := br_one fu hf (v0 := v0) hN hn hT.2.2.2 vL vN (i := i) (by omega)
    obtain ⟨Ml, M1, v1, c1, c2, c3, c4, c5⟩ := a6 M v i hT.1 hT.2.1 hT.2.2.1 (Or.inl rfl)
    have i100 : ¬ (100 : Int32) < nI i := nI_nlt (a := 100) (by omega) (by omega)
    -- the new best and most
    obtain ⟨ch', mc', ⟨bb', hbb', ech⟩, hm', KC, KR⟩ : ∃ ch' mc', (∃ bb, bb < 2 ^ 31 ∧ ch' = nI bb) ∧ nI C ≤ mc' ∧
        (f_X9_rateOfMost_L9 fu Y W0 B L p0 k0 (nc + 1) T vL vN q (nI n) y2 ch mc (nI i) = f_X9_rateOfMost_J90 fu Y W0 B L p0 k0 (f_X9_rateOfMost_L9 fu Y W0 B L p0 k0 nc) W' vL' vN' (nI n) y2 ch' mc' (nI i)) ∧
        (f_X12_bestRate_L34 fu (nf + 1) M v (nI n) y2 best mr (nI i) = f_X12_bestRate_L34 fu nf M1 v1 (nI n) y2 ch' mc' (nI (i + 1))) := by
      have CC : f_X9_rateOfMost_L9 fu Y W0 B L p0 k0 (nc + 1) T vL vN q (nI n) y2 ch mc (nI i) = if nI C ≤ mc then f_X9_rateOfMost_J90 fu Y W0 B L p0 k0 (f_X9_rateOfMost_L9 fu Y W0 B L p0 k0 nc) W' vL' vN' (nI n) y2 ch mc (nI i) else f_X9_rateOfMost_J90 fu Y W0 B L p0 k0 (f_X9_rateOfMost_L9 fu Y W0 B L p0 k0 nc) W' vL' vN' (nI n) y2 (nI i) (nI C) (nI i) := by
        show f_X9_rateOfMost_J9 _ _ _ _ _ _ _ _ _ _ _ _ _ _ _ _ _ = _
        unfold f_X9_rateOfMost_J9
        rw [if_neg i100, a1, tx_b1_q, tx_let_q, tx_let_q, a2, tx_b3_q, c_sP fu hf b1 hnp, c_sP fu hf b1 hnp, tx_b1_q, tx_b1_q, tx_let_q, eC]
      have RR1 : f_X12_bestRate_L34 fu (nf + 1) M v (nI n) y2 best mr (nI i) = if best < 0 then f_X12_bestRate_L34 fu nf M1 v1 (nI n) y2 (nI i) (nI C) (nI (i + 1)) else (if mr < nI C then f_X12_bestRate_L34 fu nf M1 v1 (nI n) y2 (nI i) (nI C) (nI (i + 1)) else f_X12_bestRate_L34 fu nf M1 v1 (nI n) y2 best mr (nI (i + 1))) := by
        show f_X12_bestRate_J34 _ _ _ _ _ _ _ _ _ = _
        unfold f_X12_bestRate_J34 f_X12_bestRate_J85 f_X12_bestRate_J92
        have c2' : f_X12_goMany fu (up2 Ml 58 (1 : Int32).toNatClampNeg (nI i)) v (nI n) = some (M1, v1) := c2
        rw [if_neg i100, c1, tx_b1_q, tx_let_q, c2', tx_b2_q, c4, c5, tx_b1_q, tx_b1_q, tx_let_q, eC, nI_1]
        rfl
      rcases hs with ⟨e0, e1, e2, e3⟩ | ⟨bb, hbb, e1, e2, e3⟩
      · refine ⟨nI i, nI C, ⟨i, by omega, rfl⟩, Int32.le_refl _, ?_, ?_⟩
        · rw [CC, e2, if_neg]
          intro z
          have := Int32.le_iff_toInt_le.mp z
          rw [nI_toInt (by omega)] at this
          have e4 : (-1 : Int32).toInt = -1 := rfl
          omega
        · rw [RR1, e3, if_pos (by decide)]
      · by_cases z : nI C ≤ mc
        · refine ⟨ch, mc, ⟨bb, hbb, e2.trans e1⟩, z, ?_, ?_⟩
          · rw [CC, if_pos z]
          · rw [RR1, if_neg (by rw [e1]; exact nI_pos hbb), if_neg (by rw [← e3]; exact Int32.not_lt.mpr z), e2, e3]
        · refine ⟨nI i, nI C, ⟨i, by omega, rfl⟩, Int32.le_refl _, ?_, ?_⟩
          · rw [CC, if_neg z]
          · rw [RR1, if_neg (by rw [e1]; exact nI_pos hbb), if_pos (by rw [← e3]; exact Int32.not_le.mp z)]
    rw [KC, KR]
    subst ech
    by_cases h15 : W' 0 15 = 0
    · -- never asked for: the others bring the same
      obtain ⟨M2, v2, g1, g2⟩ := br_rest fu hf hC eC y2 hbb' hm' (fun M v j x1 x2 x3 => a6 M v j x1 x2 x3 (Or.inr h15)) m (i + 1) M1 v1 nf c3 (by omega) (by omega)
      rw [g1]
      unfold f_X9_rateOfMost_J90 f_X9_rateOfMost_J109
      rw [if_pos h15]
      by_cases e : y2 = 0
      · rw [if_pos e, if_pos e]; exact ⟨_, _, _, _, _, _, _, rfl, rfl, g2⟩
      · rw [if_neg e, if_neg e]; exact ⟨_, _, _, _, _, _, _, rfl, rfl, g2⟩
    · have e90 : f_X9_rateOfMost_J90 fu Y W0 B L p0 k0 (f_X9_rateOfMost_L9 fu Y W0 B L p0 k0 nc) W' vL' vN' (nI n) y2 (nI bb') mc' (nI i) = f_X9_rateOfMost_L9 fu Y W0 B L p0 k0 nc W' vL' vN' k0 (nI n) y2 (nI bb') mc' (nI (i + 1)) := by
        unfold f_X9_rateOfMost_J90
        rw [if_neg h15, tx_let_q, nI_1]
      rw [e90]
      exact ih (i + 1) W' vL' vN' k0 M1 v1 _ _ _ _ nc nf c3 (Or.inr ⟨bb', hbb', rfl, rfl, rfl⟩) (by omega) (by omega) (by omega) (fun _ => ⟨bb', hbb', rfl, rfl, rfl⟩)
theorem sp17 (fu : Nat) (hf : 1000 ≤ fu) : SP17 RR fu := by
  intro k q U V y1 y2 hR
  obtain ⟨np, nt, nr, w, hN⟩ := RR_NW hR
  show T5 k q U V _ _
  unfold f_X11_bestRate f_X12_bestRate
  rw [tx_let_q]
  by_cases a1 : y1 < 1
  · rw [if_pos a1, isIn_f fu (Or.inl a1)]; exact T5.bad hR _
  rw [if_neg a1]
  by_cases a2 : 40 < y1
  · rw [if_pos a2, isIn_f fu (Or.inr a2)]; exact T5.bad hR _
  rw [if_neg a2, isIn_t fu a1 a2, tx_b1_q, if_neg one_ne]
  by_cases a3 : y2 < 0
  · rw [if_pos a3, isIn_f fu (Or.inl a3)]; exact T5.bad hR _
  rw [if_neg a3]
  by_cases a4 : y2 ≤ 1
  · rw [if_pos a4, isIn_t fu a3 (Int32.not_lt.mpr a4), tx_b1_q, if_neg one_ne]
    have a1' : ¬ y1 < 0 := fun z => a1 (Int32.lt_iff_toInt_lt.mpr (by have := Int32.lt_iff_toInt_lt.mp z; have e1 : (0 : Int32).toInt = 0 := rfl; have e2 : (1 : Int32).toInt = 1 := rfl; omega))
    obtain ⟨n, hn, rfl⟩ := nI_of2 (M := 40) (n := 40) rfl a1' (Int32.not_lt.mp a2)
    obtain ⟨r, T', vL', vN', q', M', v', z1, z2, z3⟩ := br_loop fu hf hN (n := n) (by omega) (U 6) (q 1) (k 0) y2 101 0 (U 7) (V 17) (V 8) (q 1) _ (V 19) 0 (-1) (-1) 0 fu fu (TI.first hR) (Or.inl ⟨rfl, rfl, rfl, rfl⟩) (by omega) (by omega) (by omega) (fun z => by omega)
    have z1' : f_X9_rateOfMost fu (U 6) (U 1) (U 2) (U 17) (q 1) (k 0) (U 7) (V 17) (V 8) (nI n) y2 = some (r, T', vL', vN', q') := z1
    have z2' : f_X12_bestRate_L34 fu fu (up2 (U 19) 0 2 0) (V 19) (nI n) y2 (-1) 0 0 = some (r, M', v') := z2
    rw [z1', z2', tx_b5_q]
    exact T5.fin hR z3 _ _ _ _
  · rw [if_neg a4, isIn_f fu (Or.inr (Int32.not_le.mp a4))]; exact T5.bad hR _
