/-! who would be richest; how often so much is paid; when a thought is read next -/
theorem ri_loop (fu : Nat) {B W M : S32} (v : S64) {np : Nat} (b1 : B 0 1 = nI np) (m1 : M 0 12 = nI np) (hnp : np ≤ 6) (h : ∀ p, p < np → W 5 p = M 53 (6 + p)) : ∀ (m i : Nat) (g : Int32) (nc nf : Nat), (g = -1 ∨ ∃ j, j < np ∧ g = nI j) → i + m = np → m < nc → m < nf →
    ∃ r, f_X10_greatest_tX10r5_L4 fu W B nc g (nI i) = some r ∧ f_X12_richest_L30 fu nf M v g (nI i) = some (r, M, v) := by
  intro m
  induction m with
  | zero =>
    intro i g nc nf hg hi hc hf2
    obtain ⟨nc, rfl⟩ := pos_ex hc
    obtain ⟨nf, rfl⟩ := pos_ex hf2
    refine ⟨g, ?_, ?_⟩
    · show f_X10_greatest_tX10r5_J4 _ _ _ _ _ _ = _
      unfold f_X10_greatest_tX10r5_J4
      rw [b1, if_pos (nI_le (by omega) (by omega))]
    · show f_X12_richest_J30 _ _ _ _ _ _ = _
      unfold f_X12_richest_J30
      rw [m1, if_pos (nI_le (by omega) (by omega))]
  | succ m ih =>
    intro i g nc nf hg hi hc hf2
    obtain ⟨nc, rfl⟩ := pos_ex hc
    obtain ⟨nf, rfl⟩ := pos_ex hf2
    have six : ∀ j : Nat, (6 : Int32) + nI j = nI (6 + j) := fun j => by rw [show (6 : Int32) = nI 6 from rfl, nI_add]
    rcases hg with rfl | ⟨j, hj, rfl⟩
    · obtain ⟨r, g1, g2⟩ := ih (i + 1) (nI i) nc nf (Or.inr ⟨i, by omega, rfl⟩) (by omega) (by omega) (by omega)
      refine ⟨r, ?_, ?_⟩
      · rw [← g1]
        show f_X10_greatest_tX10r5_J4 _ _ _ _ _ _ = _
        unfold f_X10_greatest_tX10r5_J4 f_X10_greatest_tX10r5_J41 f_X10_greatest_tX10r5_J43
        rw [b1, if_neg (ge_lit (by omega) (by omega)), if_neg (ge6 (by omega)), if_neg (ge6 (by omega)), if_pos rfl, tx_let_q, nI_1]
      · rw [← g2]
        show f_X12_richest_J30 _ _ _ _ _ _ = _
        unfold f_X12_richest_J30 f_X12_richest_J63 f_X12_richest_J68
        rw [m1, if_neg (ge_lit (by omega) (by omega)), if_pos (by decide), tx_let_q, nI_1]
    · have C : f_X10_greatest_tX10r5_L4 fu W B (nc + 1) (nI j) (nI i) = f_X10_greatest_tX10r5_L4 fu W B nc (if W 5 i ≤ W 5 j then nI j else nI i) (nI (i + 1)) := by
        show f_X10_greatest_tX10r5_J4 _ _ _ _ _ _ = _
        unfold f_X10_greatest_tX10r5_J4 f_X10_greatest_tX10r5_J41 f_X10_greatest_tX10r5_J43
        rw [b1, if_neg (ge_lit (by omega) (by omega)), if_neg (ge6 (by omega)), if_neg (ge6 (by omega)), if_neg (m1_ne (by omega)), tx_ck_q (by omega) (by omega), tx_ck_q (by omega) (by omega), nI_clamp (by omega), nI_clamp (by omega)]
        simp only [tx_let_q, nI_1]
        split <;> rfl
      have R : f_X12_richest_L30 fu (nf + 1) M v (nI j) (nI i) = f_X12_richest_L30 fu nf M v (if W 5 i ≤ W 5 j then nI j else nI i) (nI (i + 1)) := by
        show f_X12_richest_J30 _ _ _ _ _ _ = _
        unfold f_X12_richest_J30 f_X12_richest_J63 f_X12_richest_J68
        rw [m1, if_neg (ge_lit (by omega) (by omega)), if_neg (nI_pos (by omega)), six, six, tx_ck_q (by omega) (by omega), tx_ck_q (by omega) (by omega), nI_clamp (by omega), nI_clamp (by omega), ← h i (by omega), ← h j hj]
        simp only [tx_let_q, nI_1]
        split <;> rfl
      rw [C, R]
      refine ih (i + 1) _ nc nf (Or.inr ?_) (by omega) (by omega) (by omega)
      split
      · exact ⟨j, hj, rfl⟩
      · exact ⟨i, by omega, rfl⟩
theorem sp30 (fu : Nat) (hf : 1000 ≤ fu) : SP30 RR fu := by
  intro k q U V y1 hR
  obtain ⟨np, nt, nr, w, hN⟩ := RR_NW hR
  obtain ⟨⟨hnp, hnt, hnr⟩, ⟨b1, m1⟩, -⟩ := id hN.1
  show T5 k q U V _ _
  unfold f_X11_richest f_X12_richest
  rw [tx_let_q]
  by_cases a1 : y1 < 0
  · rw [if_pos a1, isIn_f fu (Or.inl a1)]; exact T5.bad hR _
  rw [if_neg a1]
  by_cases a4 : y1 ≤ 99
  · rw [if_pos a4, isIn_t fu a1 (Int32.not_lt.mpr a4), tx_b1_q, if_neg one_ne]
    obtain ⟨n, hn, rfl⟩ := nI_of2 (M := 99) (n := 99) rfl a1 a4
    have hT0 := TI.first hR
    obtain ⟨Wc, Ml, c1, c2, c3, c4, c5, c6, c7, -⟩ := tr_lay fu hf hN (V 19) (U 7) hT0.2.2.2
    obtain ⟨Wa, vL1, vN1, M1, v1, g1, g2, g3, g4, g5, g6, g7⟩ := trial fu hf (n := n) hN hT0 (V 17) (V 8) (by omega) c3 c5 c4.1 c4.2.2.2.2.1 c6 c7
    obtain ⟨r, z1, z2⟩ := ri_loop fu (W := Wa) (M := M1) v1 b1 (g4.1.2.1.2) hnp (fun p hp => by have := (g5.2.1.2.1 p hp).1; rw [Nat.mul_one] at this; exact this) np 0 (-1) fu fu (Or.inl rfl) (by omega) (by omega) (by omega)
    unfold f_X9_richestIn
    have z1' : f_X10_greatest_tX10r5 fu Wa (U 2) = some r := z1
    have z2' : f_X12_richest_L30 fu fu M1 v1 (-1) 0 = some (r, M1, v1) := z2
    rw [c1, c2, tx_b1_q, tx_b1_q, g1, g2, tx_b3_q, tx_b2_q, z1', z2', tx_b1_q, tx_b4_q]
    exact T5.fin hR g3 _ _ _ _
  · rw [if_neg a4, isIn_f fu (Or.inr (Int32.not_le.mp a4))]; exact T5.bad hR _
/-! drawn trials -/
theorem ch_loop (fu : Nat) (hf : 1000 ≤ fu) {B L W0 M0 : S32} {v0 : S64} {np nt nr w n : Nat} (hN : NW B L W0 M0 np nt nr w) (hn : n ≤ 100) (Y : S32) (p0 k0 : Nat) (y3 : Int32) : ∀ (m i : Nat) (T : S32) (vL vN : S64) (q : Nat) (M : S32) (v : S64) (a : Int32) (s nc nf : Nat), PF M0 M → s < 2 ^ 31 → v 0 59 = lN s → v 0 80 = v0 0 80 → (T 0 15 = 0 ∨ T 0 15 = 1) → i + m = 10 → m < nc → m < nf →
    ∃ r T' vL' vN' q' M' v', f_X9_timesPaid_L9 fu Y W0 B L p0 k0 nc T vL vN q (nI n) y3 a (nI s) (nI i) = some (r, T', vL', vN', q') ∧ f_X12_chance_L50 fu nf M v (nI n) y3 (v0 0 59) a (nI i) = some (r, M', v') ∧ TI M0 v0 T' M' v' := by
  obtain ⟨⟨hnp, hnt, hnr⟩, ⟨b1, m1⟩, -⟩ := id hN.1
  intro m
  induction m with
  | zero =>
    intro i T vL vN q M v a s nc nf hP hs h59 h80 hb hi hc hf2
    obtain ⟨nc, rfl⟩ := pos_ex hc
    obtain ⟨nf, rfl⟩ := pos_ex hf2
    have : i = 10 := by omega
    subst this
    refine ⟨a, T, vL, vN, q, up2 M 0 61 0, up4 v 0 59 (v0 0 59), ?_, ?_, ⟨hP.up _ (by decide), up4_e _ _ _ _, (up4_i _ _ _ (by decide)).trans h80, hb⟩⟩
    · show f_X9_timesPaid_J9 _ _ _ _ _ _ _ _ _ _ _ _ _ _ _ _ _ = _
      unfold f_X9_timesPaid_J9
      rw [if_pos (by decide)]
    · show f_X12_chance_J50 _ _ _ _ _ _ _ _ _ = _
      unfold f_X12_chance_J50
      rw [if_pos (by decide), tx_let_q, tx_let_q]
  | succ m ih =>
    intro i T vL vN q M v a s nc nf hP hs h59 h80 hb hi hc hf2
    obtain ⟨nc, rfl⟩ := pos_ex hc
    obtain ⟨nf, rfl⟩ := pos_ex hf2
    obtain ⟨Wc, Ml, c1, c2, c3, c4, c5, c6, c7, -⟩ := tr_lay fu hf (hN.pf hP) v T hb
    -- with drawing
    have h5 : WR B L (up2 Wc 0 3 (nI s)) (up2 Ml 0 61 1) 1 np nt nr 99 (fun p => p < np) := by
      have h5' := c5.f (i := 3) (y := nI s) (Or.inl rfl)
      obtain ⟨⟨k1, k2, k3, k4⟩, ⟨k5, k6, k7⟩, k8⟩ := id h5'
      refine h5'.mk2 (fun r h0 _ => up2_n _ _ _ h0) (up2_n _ _ _ (by decide)) (fun i hi => up2_i _ _ _ (by omega)) (k4.mk2 (fun r h0 _ => up2_n _ _ _ h0) (up2_i _ _ _ (by decide)) (up2_i _ _ _ (by decide)) (up2_i _ _ _ (by decide)) (up2_i _ _ _ (by decide)) (up2_i _ _ _ (by decide))) (fun u hu => ?_) (fun p hp => k6 p hp) rfl k8
      have e : bar (up2 Ml 0 61 1) u ↔ bar Ml u := by
        unfold bar
        rw [up2_n _ _ _ (show (26 : Nat) ≠ 0 by decide), up2_i _ _ _ (show (66 : Nat) ≠ 61 by decide), up2_i _ _ _ (show (67 : Nat) ≠ 61 by decide)]
      rw [e]
      exact k5 u hu
    obtain ⟨W', vL', vN', a1, a2, a3, a4, -, a6⟩ := many fu hf (x3 := 1) hn n 0 w _ vL vN _ v fu fu (by have := hN.2.2.2.1; omega) h5 ⟨up2_e _ _ _ _, Or.inr ⟨rfl, s, hs, up2_e _ _ _ _, h59⟩⟩ (by rw [up2_i _ _ _ (by decide)]; exact c4.2.2.2.2.1) (c6.c rfl rfl rfl) (by omega) (by omega) (by omega)
    obtain ⟨M', v', d1, d2, d3, d4, d5⟩ := a6 (Or.inl c7)
    have hP' : PF M0 M' := ((hP.trans c3).trans ((PF.refl Ml).up _ (show rl 0 61 = false by decide))).trans d5.pf
    obtain ⟨s1, s2, s3, s4⟩ := sums fu hf (hN.pf hP') d2 v'
    obtain ⟨s', hs', e3, e59⟩ : nbOK W' (v' 0 59) := by
      rcases d3.2 with z | ⟨-, z⟩
      · exact absurd z one_ne
      · exact z
    obtain ⟨r, T2, vL2, vN2, q2, M2, v2, g1, g2, g3⟩ := ih (i + 1) W' vL' vN' k0 M' v' (a + if sP W' np - sP W0 np < y3 then 0 else 1) s' nc nf hP' hs' e59 ((d4.2.1 80 (by decide)).trans h80) d2.2.2.2.2.2.2 (by omega) (by omega) (by omega)
    refine ⟨r, T2, vL2, vN2, q2, M2, v2, ?_, ?_, g3⟩
    · rw [← g1]
      show f_X9_timesPaid_J9 _ _ _ _ _ _ _ _ _ _ _ _ _ _ _ _ _ = _
      unfold f_X9_timesPaid_J9 f_X9_timesPaid_J86
      have a1' : f_X10_goWeeks fu B L (up2 Wc 0 3 (nI s)) vL vN (nI n) 1 = some (W', vL', vN') := a1
      rw [if_neg (show ¬ (10 : Int32) ≤ nI i from nI_ge (b := 10) (by omega) (by omega)), c1, tx_b1_q, tx_let_q, a1', tx_b3_q, tx_let_q, c_sP fu hf b1 hnp, c_sP fu hf b1 hnp, tx_b1_q, tx_b1_q, e3]
      simp only [tx_let_q, nI_1]
      split <;> rfl
    · rw [← g2]
      show f_X12_chance_J50 _ _ _ _ _ _ _ _ _ = _
      unfold f_X12_chance_J50 f_X12_chance_J93
      have d1' : f_X12_goMany fu (up2 Ml 0 61 1) v (nI n) = some (M', v') := d1
      rw [if_neg (show ¬ (10 : Int32) ≤ nI i from nI_ge (b := 10) (by omega) (by omega)), c2, tx_b1_q, tx_let_q, d1', tx_b2_q, s1, s3, tx_b1_q, tx_b1_q]
      simp only [tx_let_q, nI_1]
      split <;> rfl
theorem sp37 (fu : Nat) (hf : 1000 ≤ fu) : SP37 RR fu := by
  intro k q U V y1 y2 y3 hR
  obtain ⟨np, nt, nr, w, hN⟩ := RR_NW hR
  show T5 k q U V _ _
  unfold f_X11_chance f_X12_chance
  rw [tx_let_q]
  by_cases a0 : y1 < 0
  · rw [if_pos a0, if_pos a0]; exact T5.bad hR _
  rw [if_neg a0, if_neg a0]
  by_cases a1 : y2 < 1
  · rw [if_pos a1, isIn_f fu (Or.inl a1)]; exact T5.bad hR _
  rw [if_neg a1]
  by_cases a2 : 99 < y2
  · rw [if_pos a2, isIn_f fu (Or.inr a2)]; exact T5.bad hR _
  rw [if_neg a2, isIn_t fu a1 a2, tx_b1_q, if_neg one_ne]
  by_cases a3 : y3 < 0
  · rw [if_pos a3, isIn_f fu (Or.inl a3)]; exact T5.bad hR _
  rw [if_neg a3]
  by_cases a4 : y3 ≤ 999
  · rw [if_pos a4, isIn_t fu a3 (Int32.not_lt.mpr a4), tx_b1_q, if_neg one_ne, tx_let_q, tx_let_q]
    have a1' : ¬ y2 < 0 := fun z => a1 (Int32.lt_iff_toInt_lt.mpr (by have := Int32.lt_iff_toInt_lt.mp z; have e1 : (0 : Int32).toInt = 0 := rfl; have e2 : (1 : Int32).toInt = 1 := rfl; omega))
    obtain ⟨n, hn, rfl⟩ := nI_of2 (M := 99) (n := 99) rfl a1' (Int32.not_lt.mp a2)
    obtain ⟨s, hs, rfl⟩ := nI_of a0
    obtain ⟨r, T2, vL2, vN2, q2, M2, v2, g1, g2, g3⟩ := ch_loop fu hf (v0 := V 19) hN (n := n) (by omega) (U 6) (q 1) (k 0) y3 10 0 (U 7) (V 17) (V 8) (q 1) _ (up4 (V 19) 0 59 (nI s).toInt64) 0 s fu fu (PF.refl _) hs (by rw [up4_e, nI_l hs]) (up4_i _ _ _ (by decide)) (RR_bit hR) (by omega) (by omega) (by omega)
    have g1' : f_X9_timesPaid fu (U 6) (U 1) (U 2) (U 17) (q 1) (k 0) (U 7) (V 17) (V 8) (nI s) (nI n) y3 = some (r, T2, vL2, vN2, q2) := g1
    have g2' : f_X12_chance_L50 fu fu (up2 (U 19) 0 2 0) (up4 (V 19) 0 59 (nI s).toInt64) (nI n) y3 (V 19 0 59) 0 0 = some (r, M2, v2) := g2
    rw [g1', g2', tx_b5_q]
    exact T5.fin hR g3 _ _ _ _
  · rw [if_neg a4, isIn_f fu (Or.inr (Int32.not_le.mp a4))]; exact T5.bad hR _
/-! the next reading -/
theorem nx_loop (fu : Nat) (hf : 1000 ≤ fu) {B L W0 M0 : S32} {v0 : S64} {np nt nr : Nat} (Y : S32) (p0 k0 : Nat) {t : Nat} (ht : t < nt) (hnt : nt ≤ 12) : ∀ (m i w : Nat) (W : S32) (vL vN : S64) (M : S32) (v : S64) (nc nf : Nat), w + m ≤ 20000 → TI M0 v0 W M v → WR B L W M 1 np nt nr t (fun p => p < np) → M 0 61 = 0 → M 0 65 = 0 → wkOK W np w → W 0 2 = M 58 1 → W 13 t = 0 → i + m = 100 → 1 ≤ i → m < nc → m < nf →
    ∃ r T' vL' vN' M' v', f_X9_weeksToReading_L33 fu Y W0 B L p0 k0 nc W vL vN (nI t) (nI i) = some (r, T', vL', vN', k0) ∧ f_X12_nextRead_L21 fu nf M v (nI t) (nI i) = some (r, M', v') ∧ TI M0 v0 T' M' v' := by
  intro m
  induction m with
  | zero =>
    intro i w W vL vN M v nc nf hw hT h h61 h65 hk hrt h13 hi h1 hc hf2
    obtain ⟨nc, rfl⟩ := pos_ex hc
    obtain ⟨nf, rfl⟩ := pos_ex hf2
    have : i = 100 := by omega
    subst this
    refine ⟨-2, W, vL, vN, M, v, ?_, ?_, hT⟩
    · show f_X9_weeksToReading_J33 _ _ _ _ _ _ _ _ _ _ _ _ _ = _
      unfold f_X9_weeksToReading_J33
      rw [if_pos (by decide)]
    · show f_X12_nextRead_J21 _ _ _ _ _ _ = _
      unfold f_X12_nextRead_J21
      rw [if_pos (by decide)]
  | succ m ih =>
    intro i w W vL vN M v nc nf hw hT h h61 h65 hk hrt h13 hi h1 hc hf2
    obtain ⟨nc, rfl⟩ := pos_ex hc
    obtain ⟨nf, rfl⟩ := pos_ex hf2
    obtain ⟨W1, vL1, vN1, a1, a2, a3, a4, -, a6⟩ := week1 fu hf (x3 := 0) vL vN (v := v) (by omega) h ⟨h61, Or.inl rfl⟩ h65 hk
    obtain ⟨M1, v1, c1, c2, c3, c4, c5, c6⟩ := a6 (Or.inl hrt)
    have hg : f_X10_goWeeks fu B L W vL vN 1 0 = some (W1, vL1, vN1) := by
      obtain ⟨fu', rfl⟩ : ∃ k, fu = k + 1 + 1 := ⟨fu - 2, by omega⟩
      have e := a1 (f_X10_goWeeks_L2 (fu' + 1 + 1) B L (fu' + 1)) 1 0 (by omega) (by omega)
      refine Eq.trans (show f_X10_goWeeks (fu' + 1 + 1) B L W vL vN 1 0 = f_X10_goWeeks_J2 (fu' + 1 + 1) B L (f_X10_goWeeks_L2 (fu' + 1 + 1) B L (fu' + 1)) W vL vN (nI 1) 0 (nI 0) from rfl) ?_
      rw [e]
      show f_X10_goWeeks_J2 _ _ _ _ _ _ _ _ _ _ = _
      unfold f_X10_goWeeks_J2
      rw [if_pos (by decide)]
    have c1' : f_X12_weekGoes fu M v 1 = some (M1, v1) := c1
    have hT1 : TI M0 v0 W1 M1 v1 := ⟨hT.1.trans c5.pf, ((c4.2.2 rfl).1).trans hT.2.1, (c4.2.1 80 (by decide)).trans hT.2.2.1, c2.2.2.2.2.2.2⟩
    have i99 : ¬ (99 : Int32) < nI i := nI_nlt (a := 99) (by omega) (by omega)
    obtain ⟨r1, r2, r3⟩ := c6 t ht
    rw [up2_e] at r2
    have key : W1 13 t = 1 ↔ isB (M1 0 60) t := by
      constructor
      · intro z
        rcases r3 with e | ⟨-, e⟩
        · rw [e, h13] at z; exact absurd z.symm one_ne
        · exact e
      · intro z
        rcases r2 z with e | e
        · exact absurd e (isB_0 (by omega))
        · exact e
    by_cases e : W1 13 t = 1
    · refine ⟨nI i, W1, vL1, vN1, M1, v1, ?_, ?_, hT1⟩
      · show f_X9_weeksToReading_J33 _ _ _ _ _ _ _ _ _ _ _ _ _ = _
        unfold f_X9_weeksToReading_J33
        rw [if_neg i99, hg, tx_b3_q, tx_ck_q (by omega) (by omega), nI_clamp (by omega), if_pos e]
      · show f_X12_nextRead_J21 _ _ _ _ _ _ = _
        unfold f_X12_nextRead_J21 f_X12_isOf
        have e' : ((M1 0 60 >>> (nI t &&& 31)) &&& (1 : Int32)) = (1 : Int32) := key.mp e
        rw [if_neg i99, c1', tx_b2_q, if_pos e', tx_b1_q, if_neg one_ne]
    · have h0 : W1 13 t = 0 := (c2.2.2.2.2.1 t ht).resolve_right e
      obtain ⟨r, T', vL', vN', M', v', g1, g2, g3⟩ := ih (i + 1) (w + 1) W1 vL1 vN1 M1 v1 nc nf (by omega) hT1 c2 (by rw [c5 0 61 (by unfold sc; omega)]; exact h61) (by rw [c5 0 65 (by unfold sc; omega)]; exact h65) a4.1 (by rw [a3, c5 58 1 (by unfold sc; omega)]; exact hrt) h0 (by omega) (by omega) (by omega) (by omega)
      refine ⟨r, T', vL', vN', M', v', ?_, ?_, g3⟩
      · rw [← g1]
        show f_X9_weeksToReading_J33 _ _ _ _ _ _ _ _ _ _ _ _ _ = _
        unfold f_X9_weeksToReading_J33
        rw [if_neg i99, hg, tx_b3_q, tx_ck_q (by omega) (by omega), nI_clamp (by omega), if_neg e, tx_let_q, nI_1]
      · rw [← g2]
        show f_X12_nextRead_J21 _ _ _ _ _ _ = _
        unfold f_X12_nextRead_J21 f_X12_isOf
        have e' : ¬ ((M1 0 60 >>> (nI t &&& 31)) &&& (1 : Int32)) = (1 : Int32) := fun z => e (key.mpr z)
        rw [if_neg i99, c1', tx_b2_q, if_neg e', tx_b1_q, if_pos rfl, tx_let_q, nI_1]
theorem sp29 (fu : Nat) (hf : 1000 ≤ fu) : SP29 RR fu := by
  intro k q U V y1 hR
  obtain ⟨np, nt, nr, w, hN⟩ := RR_NW hR
  obtain ⟨⟨hnp, hnt, hnr⟩, ⟨b1, m1⟩, ⟨b5, m5⟩, -⟩ := id hN.1
  show T5 k q U V _ _
  unfold f_X11_nextRead f_X12_nextRead
  rw [tx_let_q]
  rcases t_thought fu (U 2) (up2 (U 19) 0 2 0) (V 19) b5 m5 hnt y1 with ⟨t, ht, rfl, e1, e2⟩ | ⟨e1, e2⟩
  · rw [e1, e2, tx_b1_q, tx_b1_q, if_neg one_ne, if_neg one_ne]
    have hT0 := TI.first hR
    obtain ⟨Wc, Ml, c1, c2, c3, c4, c5, c6, c7, -⟩ := tr_lay fu hf hN (V 19) (U 7) hT0.2.2.2
    have h5 : WR (U 2) (U 17) (up2 Wc 13 t 0) Ml 1 np nt nr t (fun p => p < np) := by
      obtain ⟨⟨k1, k2, k3, k4⟩, ⟨k5, k6, k7⟩, k8, k9, k10, k11⟩ := c5
      refine ⟨⟨k1, k2, k3, k4⟩, ⟨fun u hu => ?_, fun p hp => k6 p hp, k7⟩, fun p hp => k8 p hp, fun u hu => k9 u hu, fun u hu => ?_, k11⟩
      · obtain ⟨e1, e2, e3⟩ := k5 u hu
        refine ⟨e1, e2, fun _ hx => ?_⟩
        rw [up2_i _ _ _ hx]
        exact e3 (by omega) (by omega)
      · rw [up2_a]
        by_cases z : u = t
        · rw [if_pos ⟨rfl, z⟩]; exact Or.inl rfl
        · rw [if_neg (fun y => z y.2)]; exact k10 u hu
    obtain ⟨r, T', vL', vN', M', v', z1, z2, z3⟩ := nx_loop fu hf (W0 := U 1) (M0 := up2 (U 19) 0 2 0) (v0 := V 19) (U 6) (q 1) (k 0) ht hnt 99 1 w (up2 Wc 13 t 0) (V 17) (V 8) Ml (V 19) fu fu (by have := hN.2.2.2.1; omega) ⟨c3, rfl, rfl, c5.2.2.2.2.2.2⟩ h5 c4.1 c4.2.2.2.2.1 (c6.c rfl rfl rfl) c7 (up2_e _ _ _ _) (by omega) (by omega) (by omega) (by omega)
    unfold f_X9_weeksToReading
    have z1' : f_X9_weeksToReading_L33 fu (U 6) (U 1) (U 2) (U 17) (q 1) (k 0) fu (up2 Wc 13 t 0) (V 17) (V 8) (nI t) 1 = some (r, T', vL', vN', k 0) := z1
    have z2' : f_X12_nextRead_L21 fu fu Ml (V 19) (nI t) 1 = some (r, M', v') := z2
    rw [e1, tx_b1_q, if_neg one_ne, c1, c2, tx_b1_q, tx_b1_q, tx_ck_q (by omega) (by omega), nI_clamp (by omega), tx_let_q, z1', z2', tx_b5_q]
    exact T5.fin hR z3 _ _ _ _
  · rw [e1, e2]
    exact T5.bad hR _
