theorem week1 (fu : Nat) (hf : 1000 ≤ fu) {B L W M : S32} {b np nt nr x w : Nat} {x3 : Int32} (vL vN : S64) {v : S64} (hw : w ≤ 20000) (h : WR B L W M b np nt nr x (fun p => p < np)) (hd : drOK W M v x3) (h65 : M 0 65 = 0) (hk : wkOK W np w) :
    ∃ W' vL' vN', (∀ K2 n i, i < n → n < 2 ^ 31 → f_X10_goWeeks_J2 fu B L K2 W vL vN (nI n) x3 (nI i) = K2 W' vL' vN' (nI n) x3 (nI (i + 1))) ∧ (W' 0 15 = 0 → W 0 15 = 0) ∧ W' 0 2 = W 0 2 ∧ (wkOK W' np (w + 1) ∧ mo W W' np 1) ∧ PH B L W' b np nt nr x x3 ∧
      ((W 0 2 = M 58 b ∨ W' 0 15 = 0) → ∃ M' v', f_X12_weekGoes fu M v (nI b) = some (M', v') ∧ WR B L W' M' b np nt nr x (fun p => p < np) ∧ drOK W' M' v' x3 ∧ dF W W' v v' x3 ∧ FR b M M' ∧ rdS W W' (up2 M 0 60 0) M' nt) := by
  have hnt0 : nt ≤ 12 := h.1.2.1.1.2.1
  have hnp0 : np ≤ 6 := h.1.2.1.1.1
  have hb : b ≤ 1 := h.1.1
  have b1 : B 0 1 = nI np := h.1.2.1.2.1.1
  -- thoughts are had
  obtain ⟨Wt, Mt, t1, t2, t3, t4, t5, t6⟩ := think_loop fu v nt 0 W (up2 M 0 60 0) fu fu (h.u0 0 (Or.inr rfl)) (by omega) (by omega) (by omega)
  have t1' : f_X10_think fu B W = some Wt := t1
  have ew : Wt 0 1 = nI w := by rw [t5 0 (by decide) (by decide)]; exact hk.1
  have e59 : Mt 59 b = nI w := t3.2.1.2.2.symm.trans ew
  have hdt : drOK Wt Mt v x3 := hd.c (by rw [t6 0 (by decide) (by decide), up2_i _ _ _ (by decide)]) (by rw [t5 0 (by decide) (by decide)]) rfl
  have h65t : Mt 0 65 = 0 := by rw [t6 0 (by decide) (by decide), up2_i _ _ _ (by decide)]; exact h65
  have hkt : wkD Wt np w 0 := by
    intro p hp
    rw [if_neg (by omega), t5 7 (by decide) (by decide), t5 8 (by decide) (by decide)]
    exact hk.2 p hp
  have F0 : FR b M Mt := FR.trans ((FR.refl b M).u60 0) t4
  have wd0 : f_X12_weekGoes fu M v (nI b) = f_X12_weekGoes_L105 fu fu Mt v (nI b) 0 := by
    unfold f_X12_weekGoes
    rw [tx_let_q]
    exact t2
  have e4 : nI w - nI w / 4 * 4 = nI (w % 4) := pk_rem (d := 4) (by omega) (by omega) (by omega)
  have J2 : ∀ K2 n i, i < n → n < 2 ^ 31 → f_X10_goWeeks_J2 fu B L K2 W vL vN (nI n) x3 (nI i) = if nI (w % 4) = 3 then f_X10_goWeeks_J37 fu B L K2 Wt vL vN (nI n) x3 (nI i) (nI np) else f_X10_goWeeks_J37 fu B L K2 Wt vL vN (nI n) x3 (nI i) 0 := by
    intro K2 n i hi hn
    unfold f_X10_goWeeks_J2
    rw [if_neg (ge_lit (by omega) (by omega)), t1', tx_b1_q, ew, e4, b1, if_neg (show ¬ (6 : Int32) < nI np from nI_nlt (a := 6) (by omega) (by omega))]
  -- doors
  obtain ⟨Wd, vLd, vNd, k1, k2, k3, k4, k5, k6, k7⟩ : ∃ W' vL' vN', (∀ K2 n i, i < n → n < 2 ^ 31 → f_X10_goWeeks_J2 fu B L K2 W vL vN (nI n) x3 (nI i) = tx_b3 (f_X10_forget fu B L W' vL' vN') fun (u_T_7 : S32) (v_L_8 : S64) (v_N_9 : S64) => K2 (up2 u_T_7 0 1 ((u_T_7 0 1) + (1 : Int32))) v_L_8 v_N_9 (nI n) x3 (nI (i + 1))) ∧ (W' 0 15 = 0 → Wt 0 15 = 0) ∧ W' 0 1 = nI w ∧ W' 0 2 = W 0 2 ∧ (wkD W' np w np ∧ mo W W' np 1) ∧ PH B L W' b np nt nr x x3 ∧
      ((W 0 2 = M 58 b ∨ W' 0 15 = 0) → ∃ M' v', f_X12_weekGoes fu M v (nI b) = f_X12_weekGoes_J144 fu M' v' (nI b) ∧ WR B L W' M' b np nt nr x (fun p => p < np) ∧ drOK W' M' v' x3 ∧ dF W W' v v' x3 ∧ FR b M M' ∧ rdS W W' (up2 M 0 60 0) M' nt) := by
    have dFt : dF W Wt v v x3 := ⟨fun _ _ _ _ => rfl, fun _ _ => rfl, fun _ => ⟨rfl, by rw [t5 0 (by decide) (by decide)]⟩⟩
    have rdt : rdS W Wt (up2 M 0 60 0) Mt nt := rdS.c (t5 13 (by decide) (by decide)) (by rw [t6 0 (by decide) (by decide)])
    have e2 : Wt 0 2 = W 0 2 := by rw [t5 0 (by decide) (by decide)]
    by_cases h3 : w % 4 = 3
    · obtain ⟨W', vL', vN', g1, g2, g3, g4, g5, g6, g7⟩ := doors fu hf (b := b) (nr := nr) (x := x) (w := w) (x3 := x3) hw np 0 Wt vL vN Mt v fu fu t3 hdt h65t (by rw [e59, e4, h3]; rfl) hkt (by omega) (by omega) (by omega)
      refine ⟨W', vL', vN', ?_, g2, g3.trans ew, g4.trans e2, ⟨g5.1, fun p hp => ?_⟩, g6, fun hc => ?_⟩
      · intro K2 n i hi hn
        have q1 : f_X10_goWeeks_J37 fu B L K2 Wt vL vN (nI n) x3 (nI i) (nI np) = _ := g1 K2 (nI n) (nI i)
        rw [J2 K2 n i hi hn, if_pos (by rw [h3]; rfl), q1]
        unfold f_X10_goWeeks_J42
        rw [if_pos (nI_le (by omega) (by omega)), nI_1]
        rfl
      · obtain ⟨c, h1, h2⟩ := g5.2 p hp
        rw [if_pos (Nat.zero_le p)] at h1
        rw [t5 7 (by decide) (by decide)] at h2
        exact ⟨c, by omega, h2⟩
      · obtain ⟨M', v', l1, l2, l3, l4, l5, l6⟩ := g7 (by
          rcases hc with hc | hc
          · left; rw [e2, F0 58 b (by unfold sc; omega)]; exact hc
          · exact Or.inr hc)
        exact ⟨M', v', wd0.trans l1, l2, l3, dFt.trans l4, F0.trans l5, rdt.trans l6⟩
    · have h3x : ¬ nI (w % 4) = (3 : Int32) := fun z => h3 ((nI_eq (b := 3) (by omega) (by omega)).mp z)
      refine ⟨Wt, vL, vN, ?_, id, ew, e2, ⟨?_, mo.refl 1 (t5 7 (by decide) (by decide))⟩, ⟨Mt, v, t3, hdt, h65t⟩, fun _ => ⟨Mt, v, ?_, t3, hdt, dFt, F0, rdt⟩⟩
      · intro K2 n i hi hn
        obtain ⟨fu', rfl⟩ := pos_ex (show 0 < fu by omega)
        rw [J2 K2 n i hi hn, if_neg h3x]
        unfold f_X10_goWeeks_J37
        show f_X10_goWeeks_J42 (fu' + 1) B L K2 (f_X10_goWeeks_L42 (fu' + 1) B L K2 fu') Wt vL vN (nI n) x3 (nI i) 0 0 = _
        unfold f_X10_goWeeks_J42
        rw [if_pos (by decide), nI_1]
        rfl
      · intro p hp
        obtain ⟨⟨a1, a2, a3⟩, ⟨c1, c2, c3⟩⟩ := hkt p hp
        rw [if_neg (by omega)] at a2 c2
        rw [if_pos hp]
        exact ⟨⟨a1, by omega, a3⟩, ⟨c1, by omega, c3⟩⟩
      · rw [wd0]
        obtain ⟨fu', rfl⟩ := pos_ex (show 0 < fu by omega)
        show f_X12_weekGoes_J105 _ _ _ _ _ _ = _
        unfold f_X12_weekGoes_J105
        by_cases hz : Mt 0 12 ≤ 0
        · rw [if_pos hz]
        · rw [if_neg hz, if_pos h65t, ck2 hb, nI_clamp (n := b) (by omega), e59, e4, if_neg h3x]
  -- thoughts fade
  obtain ⟨Mp, vp, p1, p2, p3⟩ := k6
  obtain ⟨Wf, vLf, vNf, Mf, vf, f1, f2, f3, f4, f5, f6, f7, f8⟩ := fade_loop fu hf (fun p hp => hp) nt 0 Wd vLd vNd Mp vp fu fu p1 (by omega) (by omega) (by omega)
  have f1' : f_X10_forget fu B L Wd vLd vNd = some (Wf, vLf, vNf) := f1
  have ewf : Wf 0 1 = nI w := by rw [f6 0 (by decide) (by decide)]; exact k3
  refine ⟨up2 Wf 0 1 (Wf 0 1 + 1), vLf, vNf, fun K2 n i hi hn => ?_, ?_, ?_, ⟨⟨?_, fun p hp => ?_⟩, k5.2.trans (l := 0) (mo.refl 0 (by rw [up2_n _ _ _ (by decide)]; exact f6 7 (by decide) (by decide)))⟩, ⟨_, vf, f3.wk, ?_, ?_⟩, fun hc => ?_⟩
  · rw [k1 K2 n i hi hn, f1', tx_b3_q]
  · rw [up2_i _ _ _ (by decide), f6 0 (by decide) (by decide)]
    intro z
    have := k2 z
    rw [t5 0 (by decide) (by decide)] at this
    exact this
  · rw [up2_i _ _ _ (by decide), f6 0 (by decide) (by decide)]
    exact k4
  · rw [up2_e, ewf, nI_1]
  · have := k5.1 p hp
    rw [if_pos hp] at this
    rw [up2_n _ _ _ (by decide), up2_n _ _ _ (by decide), f6 7 (by decide) (by decide), f6 8 (by decide) (by decide)]
    exact this
  · exact p2.c (by rw [up2_n _ _ _ (by decide)]; exact f4 0 61 (by unfold sc; omega)) (by rw [up2_i _ _ _ (by decide), f6 0 (by decide) (by decide)]) (by rw [f5 0 (by decide) (by decide)])
  · rw [up2_n _ _ _ (by decide), f4 0 65 (by unfold sc; omega)]
    exact p3
  · have hc' : W 0 2 = M 58 b ∨ Wd 0 15 = 0 := by
      rcases hc with hc | hc
      · exact Or.inl hc
      · right
        rw [up2_i _ _ _ (by decide), f6 0 (by decide) (by decide)] at hc
        exact hc
    obtain ⟨Mr, vr, r1, r2, r3, r4, r5, r6⟩ := k7 hc'
    obtain ⟨Wg, vLg, vNg, Mg, vg, g1, g2, g3, g4, g5, g6, g7, g8⟩ := fade_loop fu hf (fun p hp => hp) nt 0 Wd vLd vNd Mr vr fu fu r2 (by omega) (by omega) (by omega)
    rw [f1] at g1
    injection g1 with g1
    injection g1 with e1 g1
    subst e1
    refine ⟨_, vg, ?_, g3.wk, ?_, ?_, ?_, ?_⟩
    · rw [r1]
      unfold f_X12_weekGoes_J144
      exact g2
    · exact r3.c (by rw [up2_n _ _ _ (by decide)]; exact g4 0 61 (by unfold sc; omega)) (by rw [up2_i _ _ _ (by decide), f6 0 (by decide) (by decide)]) (by rw [g5 0 (by decide) (by decide)])
    · exact r4.trans (dF.of x3 g5 (by rw [up2_i _ _ _ (by decide), f6 0 (by decide) (by decide)]))
    · exact r5.trans (g4.up _ (by unfold sc; omega))
    · refine r6.trans (rdS.c ?_ ?_)
      · rw [up2_n _ _ _ (by decide)]; exact f6 13 (by decide) (by decide)
      · rw [up2_n _ _ _ (by decide)]; exact g7
/-- some weeks of the tried world -/
theorem many (fu : Nat) (hf : 1000 ≤ fu) {B L : S32} {np nt nr x n : Nat} {x3 : Int32} (hn : n ≤ 100) : ∀ (m i w : Nat) (W : S32) (vL vN : S64) (M : S32) (v : S64) (nc nf : Nat), w + m ≤ 20000 → WR B L W M 1 np nt nr x (fun p => p < np) → drOK W M v x3 → M 0 65 = 0 → wkOK W np w → i + m = n → m < nc → m < nf →
    ∃ W' vL' vN', f_X10_goWeeks_L2 fu B L nc W vL vN (nI n) x3 (nI i) = some (W', vL', vN') ∧ (W' 0 15 = 0 → W 0 15 = 0) ∧ W' 0 2 = W 0 2 ∧ (wkOK W' np (w + m) ∧ mo W W' np m) ∧ PH B L W' 1 np nt nr x x3 ∧
      ((W 0 2 = M 58 1 ∨ W' 0 15 = 0) → ∃ M' v', f_X12_goMany_L2 fu nf M v (nI n) (nI i) = some (M', v') ∧ WR B L W' M' 1 np nt nr x (fun p => p < np) ∧ drOK W' M' v' x3 ∧ dF W W' v v' x3 ∧ FR 1 M M') := by
  intro m
  induction m with
  | zero =>
    intro i w W vL vN M v nc nf hw h hd h65 hk hi hc hf2
    obtain ⟨nc, rfl⟩ := pos_ex hc
    obtain ⟨nf, rfl⟩ := pos_ex hf2
    refine ⟨W, vL, vN, ?_, id, rfl, ⟨hk, mo.refl 0 rfl⟩, ⟨M, v, h, hd, h65⟩, fun _ => ⟨M, v, ?_, h, hd, dF.refl _ _ _, FR.refl _ _⟩⟩
    · show f_X10_goWeeks_J2 _ _ _ _ _ _ _ _ _ _ = _
      unfold f_X10_goWeeks_J2
      rw [if_pos (nI_le (by omega) (by omega))]
    · show f_X12_goMany_J2 _ _ _ _ _ _ = _
      unfold f_X12_goMany_J2
      rw [if_pos (nI_le (by omega) (by omega))]
  | succ m ih =>
    intro i w W vL vN M v nc nf hw h hd h65 hk hi hc hf2
    obtain ⟨nc, rfl⟩ := pos_ex hc
    obtain ⟨nf, rfl⟩ := pos_ex hf2
    obtain ⟨W1, vL1, vN1, a1, a2, a3, a4, ⟨Mp, vp, p1, p2, p3⟩, a6⟩ := week1 fu hf vL vN (by omega) h hd h65 hk
    have C : f_X10_goWeeks_L2 fu B L (nc + 1) W vL vN (nI n) x3 (nI i) = f_X10_goWeeks_L2 fu B L nc W1 vL1 vN1 (nI n) x3 (nI (i + 1)) := a1 _ n i (by omega) (by omega)
    by_cases hc0 : W 0 2 = M 58 1 ∨ W1 0 15 = 0
    · obtain ⟨M1, v1, c1, c2, c3, c4, c5, -⟩ := a6 hc0
      have R : f_X12_goMany_L2 fu (nf + 1) M v (nI n) (nI i) = f_X12_goMany_L2 fu nf M1 v1 (nI n) (nI (i + 1)) := by
        show f_X12_goMany_J2 _ _ _ _ _ _ = _
        unfold f_X12_goMany_J2
        have c1' : f_X12_weekGoes fu M v 1 = some (M1, v1) := c1
        rw [if_neg (ge_lit (by omega) (by omega)), c1', tx_b2_q, tx_let_q, nI_1]
      obtain ⟨W', vL', vN', g1, g2, g3, g4, g5, g6⟩ := ih (i + 1) (w + 1) W1 vL1 vN1 M1 v1 nc nf (by omega) c2 c3 (by rw [c5 0 65 (by unfold sc; omega)]; exact h65) a4.1 (by omega) (by omega) (by omega)
      refine ⟨W', vL', vN', C.trans g1, fun z => a2 (g2 z), g3.trans a3, ⟨by rw [show w + (m + 1) = w + 1 + m by omega]; exact g4.1, by rw [show m + 1 = 1 + m by omega]; exact a4.2.trans g4.2⟩, g5, fun hc => ?_⟩
      obtain ⟨M', v', k1, k2, k3, k4, k5⟩ := g6 (by
        rcases hc with hc | hc
        · left; rw [a3, c5 58 1 (by unfold sc; omega)]; exact hc
        · exact Or.inr hc)
      exact ⟨M', v', R.trans k1, k2, k3, c4.trans k4, c5.trans k5⟩
    · obtain ⟨W', vL', vN', g1, g2, g3, g4, g5, g6⟩ := ih (i + 1) (w + 1) W1 vL1 vN1 Mp vp nc nf (by omega) p1 p2 p3 a4.1 (by omega) (by omega) (by omega)
      refine ⟨W', vL', vN', C.trans g1, fun z => a2 (g2 z), g3.trans a3, ⟨by rw [show w + (m + 1) = w + 1 + m by omega]; exact g4.1, by rw [show m + 1 = 1 + m by omega]; exact a4.2.trans g4.2⟩, g5, fun hc => ?_⟩
      rcases hc with hc | hc
      · exact absurd (Or.inl hc) hc0
      · exact absurd (Or.inr (g2 hc)) hc0
/-- some weeks of the present one -/
theorem nows (fu : Nat) (hf : 1000 ≤ fu) {B L : S32} {np nt nr x n : Nat} {x3 : Int32} (hn : n ≤ 100) : ∀ (m i w : Nat) (W : S32) (vL vN : S64) (M : S32) (v : S64) (nc nf : Nat), w + m ≤ 20000 → WR B L W M 0 np nt nr x (fun p => p < np) → drOK W M v x3 → M 0 65 = 0 → wkOK W np w → W 0 2 = M 58 0 → i + m = n → m < nc → m < nf →
    ∃ W' vL' vN' M' v', f_X10_goWeeks_L2 fu B L nc W vL vN (nI n) x3 (nI i) = some (W', vL', vN') ∧ W' 0 2 = W 0 2 ∧ wkOK W' np (w + m) ∧
      f_X12_weeks_L42 fu nf M v (nI n) (nI i) = f_X12_weeks_J42 fu (fun _ _ _ _ => none) M' v' (nI n) (nI n) ∧ WR B L W' M' 0 np nt nr x (fun p => p < np) ∧ drOK W' M' v' x3 ∧ dF W W' v v' x3 ∧ FR 0 M M' := by
  intro m
  induction m with
  | zero =>
    intro i w W vL vN M v nc nf hw h hd h65 hk hrt hi hc hf2
    obtain ⟨nc, rfl⟩ := pos_ex hc
    obtain ⟨nf, rfl⟩ := pos_ex hf2
    have hin : i = n := by omega
    subst hin
    refine ⟨W, vL, vN, M, v, ?_, rfl, hk, ?_, h, hd, dF.refl _ _ _, FR.refl _ _⟩
    · show f_X10_goWeeks_J2 _ _ _ _ _ _ _ _ _ _ = _
      unfold f_X10_goWeeks_J2
      rw [if_pos (nI_le (by omega) (by omega))]
    · show f_X12_weeks_J42 _ _ _ _ _ _ = _
      unfold f_X12_weeks_J42
      rw [if_pos (nI_le (by omega) (by omega)), if_pos (nI_le (by omega) (by omega))]
  | succ m ih =>
    intro i w W vL vN M v nc nf hw h hd h65 hk hrt hi hc hf2
    obtain ⟨nc, rfl⟩ := pos_ex hc
    obtain ⟨nf, rfl⟩ := pos_ex hf2
    obtain ⟨W1, vL1, vN1, a1, a2, a3, a4, -, a6⟩ := week1 fu hf vL vN (by omega) h hd h65 hk
    have C : f_X10_goWeeks_L2 fu B L (nc + 1) W vL vN (nI n) x3 (nI i) = f_X10_goWeeks_L2 fu B L nc W1 vL1 vN1 (nI n) x3 (nI (i + 1)) := a1 _ n i (by omega) (by omega)
    obtain ⟨M1, v1, c1, c2, c3, c4, c5, -⟩ := a6 (Or.inl hrt)
    have R : f_X12_weeks_L42 fu (nf + 1) M v (nI n) (nI i) = f_X12_weeks_L42 fu nf M1 v1 (nI n) (nI (i + 1)) := by
      show f_X12_weeks_J42 _ _ _ _ _ _ = _
      unfold f_X12_weeks_J42
      have c1' : f_X12_weekGoes fu M v 0 = some (M1, v1) := c1
      rw [if_neg (ge_lit (by omega) (by omega)), c1', tx_b2_q, tx_let_q, nI_1]
    obtain ⟨W', vL', vN', M', v', g1, g3, g4, k1, k2, k3, k4, k5⟩ := ih (i + 1) (w + 1) W1 vL1 vN1 M1 v1 nc nf (by omega) c2 c3 (by rw [c5 0 65 (by unfold sc; omega)]; exact h65) a4.1 (by rw [a3, c5 58 0 (by unfold sc; omega)]; exact hrt) (by omega) (by omega) (by omega)
    exact ⟨W', vL', vN', M', v', C.trans g1, g3.trans a3, by rw [show w + (m + 1) = w + 1 + m by omega]; exact g4, R.trans k1, k2, k3, c4.trans k4, c5.trans k5⟩
