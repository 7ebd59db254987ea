theorem WR.x100 {B L W M : S32} {b np nt nr x : Nat} {S : Nat → Prop} (h : WR B L W M b np nt nr x S) : WR B L W M b np nt nr 100 S := by
  obtain ⟨k1, ⟨k5, k6, k7⟩, k8⟩ := h
  exact ⟨k1, ⟨fun t ht => ⟨(k5 t ht).1, (k5 t ht).2.1, fun w => absurd w (by omega)⟩, k6, k7⟩, k8⟩
theorem sp15 (fu : Nat) (hf : 1000 ≤ fu) : SP15 RR fu := by
  intro k q U V y1 hR
  obtain ⟨np, nt, nr, w, hN⟩ := RR_NW hR
  obtain ⟨⟨hnp, hnt, hnr⟩, ⟨b1, m1⟩, ⟨b5, m5⟩, ⟨b10, m10⟩, hbp, hbt, hbr, hb0, hwp, hwt, hwr, hw0, hbi, hwi⟩ := id hN.1
  show T5 k q U V _ _
  unfold f_X11_bestRound f_X12_bestRound
  rw [tx_let_q]
  by_cases a1 : y1 < 0
  · rw [if_pos a1, isIn_f fu (Or.inl a1)]; exact T5.bad hR _
  rw [if_neg a1]
  by_cases a2 : 4 < y1
  · rw [if_pos a2, isIn_f fu (Or.inr a2)]; exact T5.bad hR _
  rw [if_neg a2, isIn_t fu a1 a2, tx_b1_q, if_neg one_ne, b10, m10, b1, m1]
  rcases Nat.eq_zero_or_pos nr with e0 | h1
  · subst e0
    rw [if_pos nI_0, if_pos nI_0]; exact T5.bad hR _
  rw [if_neg (nI_ne0 h1 (by omega)), if_neg (nI_ne0 h1 (by omega))]
  obtain ⟨x, hx, rfl⟩ := nI_of2 (M := 4) (n := 4) rfl a1 (Int32.not_lt.mp a2)
  -- how many doors choose
  obtain ⟨kk, hk4, hkn, hkd⟩ : ∃ kk, kk ≤ 4 ∧ kk ≤ np ∧ ∀ p, p < np → (p < kk ↔ p < 4) := by
    by_cases e : 4 ≤ np
    · exact ⟨4, by omega, e, fun p _ => Iff.rfl⟩
    · exact ⟨np, by omega, Nat.le_refl _, fun p hp => ⟨fun _ => by omega, fun _ => hp⟩⟩
  have ek : (if (4 : Int32) ≤ nI np then f_X12_bestRound_J39 fu (up2 (U 19) 0 2 0) (V 19) (nI x) 4 else f_X12_bestRound_J39 fu (up2 (U 19) 0 2 0) (V 19) (nI x) (nI np)) = f_X12_bestRound_J39 fu (up2 (U 19) 0 2 0) (V 19) (nI x) (nI kk) := by
    by_cases e : 4 ≤ np
    · rw [if_pos (show (4 : Int32) ≤ nI np from nI_le (a := 4) e (by omega))]
      have : kk = 4 := by
        have := (hkd 3 (by omega)).mpr (by omega)
        omega
      rw [this]
      rfl
    · rw [if_neg (show ¬ (4 : Int32) ≤ nI np from nI_ge (b := 4) (by omega) (by omega))]
      have : kk = np := by
        rcases Nat.lt_or_ge kk np with z | z
        · have := (hkd kk z).mpr (by omega)
          omega
        · omega
      rw [this]
  rw [ek]
  -- the world in which thoughts are had
  obtain ⟨Wc, Ml, c1, c2, c3, c4, c5, c6, c7, c8, c9, c10, c11, c12, c13, c14⟩ := tr_lay fu hf hN (V 19) (U 7) (RR_bit hR)
  obtain ⟨W1, Mt, t1, -, t3, t4, t5, t6⟩ := think_loop fu (V 19) nt 0 Wc Ml fu fu c5 (by omega) (by omega) (by omega)
  have hth : f_X10_think fu (U 2) Wc = some W1 := t1
  obtain ⟨dl, hdl⟩ := dl_ex fu hf (V 19) t3.x100 (by rw [t6 0 (by decide) (by decide)]; exact c4.1) (by rw [t5 0 (by decide) (by decide), t6 58 (by decide) (by decide)]; exact c7)
  obtain ⟨am, ham⟩ : ∃ am : Nat → Nat, ∀ p, FA (dl p) nr (am p) := ⟨fun p => Classical.choose (FA.ex (dl p) nr h1), fun p => Classical.choose_spec (FA.ex (dl p) nr h1)⟩
  obtain ⟨r0, hr0⟩ : ∃ r0 : Nat → Nat, ∀ p, p < np → U 1 10 p = nI (r0 p) ∧ r0 p < nr := by
    refine ⟨fun p => (U 1 10 p).toNatClampNeg, fun p hp => ?_⟩
    rcases (hwi.1 p hp).2.2 with ⟨e, -⟩ | ⟨a, ha, e⟩
    · omega
    · show U 1 10 p = nI ((U 1 10 p).toNatClampNeg) ∧ (U 1 10 p).toNatClampNeg < nr
      rw [e, nI_clamp (by omega)]
      exact ⟨rfl, ha⟩
  have hW1 : cFb W1 W1 nt := ⟨cF.refl _, t3.2.2.2.2.1, t3.2.2.2.2.2.2⟩
  have hpow := pow4 hnr hk4
  have cls : ∀ z, (∃ W' vL' vN', f_X9_roundOfMost_L20 fu (U 6) (U 1) (U 2) (U 17) fu W1 (V 17) (V 8) (nI x) 0 0 = some (z, W', vL', vN') ∧ cFb W1 W' nt) → ∀ M' v', PF (up2 (U 19) 0 2 0) M' → v' 0 59 = V 19 0 59 → v' 0 80 = V 19 0 80 → T5 k q U V (f_X11_bestRound_J40 fu (U 0) (U 2) (U 6) (U 1) (U 17) (q 1) (k 0) (U 7) (V 17) (V 8) (nI x)) (some (z, M', v')) := by
    rintro z ⟨W', vL', vN', g1, g2⟩ M' v' h1 h2 h3
    unfold f_X11_bestRound_J40 f_X9_roundOfMost
    rw [c1, tx_b1_q, hth, tx_b1_q, g1, tx_b4_q]
    exact T5.fin hR ⟨h1, h2, h3, g2.2.2⟩ _ _ _ _
  obtain ⟨a, Mz, vz, k1, k2, k3, k4, k5⟩ := code_loop fu hf (v0 := V 19) hN (RR_bit hR) c1 hth t5 hdl hr0 h1 hk4 hkn (nI x) (nr ^ kk) 0 (up2 (U 19) 0 2 0) (V 19) (-1) 0 fu (by omega) (by omega) (PF.refl _) rfl rfl (Or.inl ⟨rfl, rfl, rfl⟩)
  have ha := k1.1
  have hdg := best_dg h1 hkn (fun p _ => ham p) k1
  have k2' : f_X12_bestRound_L61 fu fu (up2 (U 19) 0 2 0) (V 19) (nI x) (nI kk) (-1) 0 0 = _ := k2
  have hz14 : Mz 0 14 = nI nr := (k3 0 14 (by decide)).trans m10
  have hp14 : pT Mz 0 14 = nI nr := (pT_pf Mz 0 14 (by decide)).trans hz14
  have R : f_X12_bestRound_J53 fu (up2 (U 19) 0 2 0) (V 19) (nI x) (nI kk) = if nI x = 4 then some (nI (TTc dl np nr kk r0 a), pT Mz, vz) else tx_b1 (f_X12_powerOf fu (nI nr) ((nI kk - 1) - nI x)) fun (r_16 : Int32) => tx_nz r_16 <| tx_nz (nI nr) <| some ((nI a / r_16) - (nI a / r_16) / (nI nr) * (nI nr), pT Mz, vz) := by
    unfold f_X12_bestRound_J53
    rw [k2']
    unfold f_X12_bestRound_J61
    rw [hz14, pw_q fu hf nr kk (by omega), tx_b1_q, if_pos (nI_le (Nat.le_refl _) (by omega)), pT_f, tx_b1_q, hp14]
  unfold f_X12_bestRound_J39
  rw [R]
  by_cases e4 : x = 4
  · subst e4
    rw [if_pos (show (4 : Int32) ≤ nI 4 by decide), if_pos (show (4 : Int32) ≤ nI 4 by decide), if_pos (show nI 4 = (4 : Int32) from rfl)]
    have es : TTc dl np nr kk r0 a = sN (fun p => dl p (if p < 4 then am p else r0 p)) np 0 := by
      refine sN_congr np 0 (fun p _ hp => ?_)
      show dl p (roC nr kk a r0 p) = dl p (if p < 4 then am p else r0 p)
      unfold roC
      by_cases e : p < 4
      · rw [if_pos e, if_pos ((hkd p (by omega)).mpr e), hdg p ((hkd p (by omega)).mpr e)]
      · rw [if_neg e, if_neg (fun z => e ((hkd p (by omega)).mp z))]
    rw [es]
    obtain ⟨W', vL', vN', g1, g2⟩ := ro_all fu hf hnp hnr b1 b10 hdl (U 6) h1 (fun p _ => ham p) hr0 (nI 4) (fun _ _ _ => by decide) np 0 W1 (V 17) (V 8) 0 fu (by omega) (by omega) hW1
    rw [Nat.zero_add] at g1
    exact cls _ ⟨W', vL', vN', g1, g2⟩ (pT Mz) vz (k3.trans (pT_pf Mz)) k4 k5
  · have hx4 : x < 4 := by omega
    have ne4 : ¬ nI x = (4 : Int32) := fun z => e4 ((nI_eq (b := 4) (by omega) (by omega)).mp z)
    rw [if_neg (ge4 hx4), if_neg (ge4 hx4), if_neg ne4]
    by_cases hxn : x < np
    · have hxk := (hkd x hxn).mpr hx4
      obtain ⟨d1, d2, d3, d4⟩ := dg_q fu hf (c := a) h1 hnr hk4 hxk (by omega)
      rw [if_pos (nI_lt hxn (by omega)), if_pos (nI_lt hxk (by omega)), d1, tx_b1_q, tx_nz_q d2, tx_nz_q d3, d4, hdg x hxk]
      obtain ⟨W', vL', vN', g1, g2⟩ := ro_one fu hf hnp hnr b1 b10 hdl (U 6) h1 (fun p _ => ham p) hr0 hxn hx4 x 0 W1 (V 17) (V 8) 0 fu (by omega) (by omega) hW1
      exact cls _ ⟨W', vL', vN', g1, g2⟩ (pT Mz) vz (k3.trans (pT_pf Mz)) k4 k5
    · rw [if_neg (nI_nlt (by omega) (by omega)), if_neg (nI_nlt (by omega) (by omega))]
      exact T5.bad hR _
