theorem WR.fl {B L W M W' : S32} {np nt nr : Nat} (h : WR B L W M 1 np nt nr 99 (fun p => p < np)) (hp : plF M) {z2 z3 z4 : Int32} (hfl : flK W' (flM M z2 (-1) z3 z4) np nr) (h11 : W' 11 = W 11) (h12 : W' 12 = W 12) (h13 : W' 13 = W 13) (h0 : W' 0 = W 0) (hpp : ppR W' M 1 (fun p => p < np)) (h5 : wdPp W' np nr) : WR B L W' (flM M z2 (-1) z3 z4) 1 np nt nr 99 (fun p => p < np) := by
  obtain ⟨⟨k1, k2, k3, k4⟩, ⟨k5, k6, k7⟩, k8, k9, k10, k11⟩ := id h
  have hnt : nt ≤ 12 := k2.1.2.1
  obtain ⟨v1, v2, v3, v4, v5, v6, v7, v8, v9, v10⟩ := flM_v M z2 (-1) z3 z4
  refine h.mk2 (fun r h0 _ => flM_n _ _ _ _ _ h0) (flM_n _ _ _ _ _ (by decide)) v10 hfl (fun u hu => ?_) (fun p hp => ?_) (by rw [h0]) ⟨h5, fun u hu => ?_, fun u hu => ?_, ?_⟩
  · obtain ⟨e1, e2, e3⟩ := k5 u hu
    obtain ⟨⟨a, ha, ea⟩, -⟩ := k2.2.2.2.2.2.2.1 u hu
    obtain ⟨t7, -⟩ := k2.2.2.2.2.1 u hu
    have nb := plF_bar hp (t := u) (a := a) (by omega) (by have := k2.1.1; omega) (t7.symm.trans ea)
    rw [h11, h12, h13, flM_n _ _ _ _ _ (show (50 : Nat) ≠ 0 by decide), flM_n _ _ _ _ _ (show (51 : Nat) ≠ 0 by decide), flM_n _ _ _ _ _ (show (52 : Nat) ≠ 0 by decide)]
    refine ⟨?_, e2, e3⟩
    rcases e1 with ⟨e, e'⟩ | ⟨-, -, e⟩
    · refine Or.inl ⟨e, fun _ => ?_⟩
      rintro (z | z)
      · rw [flM_n _ _ _ _ _ (by decide), v2] at z
        exact nb (Or.inl (z.trans hp.2.2.2.2.2.1.symm))
      · rw [v7] at z
        exact nb (Or.inr z)
    · exact absurd e nb
  · rw [flM_n _ _ _ _ _ (show (53 : Nat) ≠ 0 by decide), flM_n _ _ _ _ _ (show (54 : Nat) ≠ 0 by decide), flM_n _ _ _ _ _ (show (55 : Nat) ≠ 0 by decide), flM_n _ _ _ _ _ (show (56 : Nat) ≠ 0 by decide), flM_n _ _ _ _ _ (show (57 : Nat) ≠ 0 by decide)]
    exact hpp p hp
  · rw [h11, h12]; exact k9 u hu
  · rw [h13]; exact k10 u hu
  · rw [h0]; exact k11
/-- the reference sets its flags -/
theorem tr_flags (fu : Nat) (hf : 1000 ≤ fu) (v : S64) {M Ml : S32} (hl : f_X12_layTried fu v M = some Ml) (x2 x3 : Int32) :
    f_X12_tried_J46 fu M v 0 x2 x3 = f_X12_tried_J137 fu (flM Ml 1 (-1) 0 0) v x3 ∧ f_X12_tried_J46 fu M v 1 x2 x3 = f_X12_tried_L108 fu fu (flM Ml 0 (-1) 0 0) v 1 x3 (nI 0) ∧ f_X12_tried_J46 fu M v 2 x2 x3 = f_X12_tried_J137 fu (flM Ml 0 x2 0 0) v x3 ∧ f_X12_tried_J46 fu M v 3 x2 x3 = f_X12_tried_J137 fu (flM Ml 0 (-1) 1 0) v x3 ∧ f_X12_tried_J46 fu M v 4 x2 x3 = f_X12_tried_J137 fu (flM Ml 0 (-1) 0 1) v x3 := by
  obtain ⟨fu', rfl⟩ := pos_ex (show 0 < fu by omega)
  unfold f_X12_tried_J46
  rw [hl]
  refine ⟨?_, ?_, ?_, ?_, ?_⟩ <;> rfl
theorem sp38 (fu : Nat) (hf : 1000 ≤ fu) : SP38 RR fu := by
  intro k q U V y1 y2 y3 hR
  obtain ⟨np, nt, nr, w, hN⟩ := RR_NW hR
  obtain ⟨⟨hnp, hnt, hnr⟩, ⟨b1, m1⟩, ⟨b5, m5⟩, -⟩ := id hN.1
  show T5 k q U V _ _
  unfold f_X11_tried f_X12_tried
  rw [tx_let_q]
  by_cases a1 : y1 < 0
  · rw [if_pos a1, isIn_f fu (Or.inl a1)]; exact T5.bad hR _
  rw [if_neg a1]
  by_cases a2 : 4 < y1
  · rw [if_pos a2, isIn_f fu (Or.inr a2)]; exact T5.bad hR _
  rw [if_neg a2, isIn_t fu a1 a2, tx_b1_q, if_neg one_ne]
  by_cases a3 : y3 < 0
  · rw [if_pos a3, isIn_f fu (Or.inl a3)]; exact T5.bad hR _
  rw [if_neg a3]
  by_cases a4 : y3 ≤ 99
  · rw [if_pos a4, isIn_t fu a3 (Int32.not_lt.mpr a4), tx_b1_q, if_neg one_ne]
    obtain ⟨n, hn, rfl⟩ := nI_of2 (M := 99) (n := 99) rfl a3 a4
    obtain ⟨c, hc, rfl⟩ := nI_of2 (M := 4) (n := 4) rfl a1 (Int32.not_lt.mp a2)
    have hT0 := TI.first hR
    obtain ⟨Wc, Ml, c1, c2, c3, c4, c5, c6, c7, -⟩ := tr_lay fu hf hN (V 19) (U 7) hT0.2.2.2
    obtain ⟨f0, f1, f2, f3, f4⟩ := tr_flags fu hf (V 19) c2 y2 (nI n)
    obtain ⟨⟨k1, k2, k3, k4⟩, ⟨k5, k6, k7⟩, k8, k9, k10, k11⟩ := id c5
    -- the end, whatever was tried
    have fin : ∀ (Wt M1 : S32), PF Ml M1 → WR (U 2) (U 17) Wt M1 1 np nt nr 99 (fun p => p < np) → M1 0 61 = 0 → M1 0 65 = 0 → wkOK Wt np w → Wt 0 2 = M1 58 1 → T5 k q U V (tx_b4 (f_X9_paidIf_J103 fu (U 6) (U 1) (U 2) (U 17) Wt (V 17) (V 8) (nI n)) fun (r_11 : Int32) (u_W2_12 : S32) (v_L_13 : S64) (v_N_14 : S64) => some (r_11, u_W2_12, v_L_13, v_N_14, k 0)) (f_X12_tried_J137 fu M1 (V 19) (nI n)) := by
      intro Wt M1 h1 h2 h3 h4 h5 h6
      obtain ⟨r, W', vL', vN', M', v', g1, g2, g3⟩ := tr_end fu hf hR hN hn (c3.trans h1) h2 h3 h4 h5 h6
      rw [g1, g2, tx_b4_q]
      exact T5.fin hR g3 _ _ _ _
    have p65 := c4.2.2.2.2.1
    obtain ⟨p61, p62, p63, p64, -, p66, p67, p68, p69⟩ := id c4
    by_cases e2 : nI c = 2
    · rw [if_pos e2, if_pos e2]
      rcases t_man fu (U 2) (up2 (U 19) 0 2 0) (V 19) b1 m1 hnp y2 with ⟨p, hp, rfl, e3, e4⟩ | ⟨e3, e4⟩
      · rw [e3, e4, tx_b1_q, tx_b1_q, if_neg one_ne, if_neg one_ne, e2, f2]
        obtain ⟨Wt, t1, t2, t3⟩ := tn_loop fu (B := U 2) (U 6) b5 hnt (nI p) Wc nt 0 Wc fu (by omega) (by omega) (fun _ _ => rfl) (fun t ht => by rw [if_neg (fun z => by omega)])
        have t1' : f_X9_thinkNothing fu (U 6) (U 2) Wc (nI p) = some Wt := t1
        unfold f_X11_tried_J46 f_X9_paidIf
        rw [c1, tx_b1_q, if_neg (by decide), if_neg (by decide), if_pos rfl, t1', tx_b1_q]
        obtain ⟨v1, v2, v3, v4, v5, v6, v7, v8, v9, v10⟩ := flM_v Ml 0 (nI p) 0 0
        refine fin Wt _ (flM_pf _ _ _ _ _) ?_ (v5.trans p61) (v6.trans p65) (c6.c (by rw [t2 0 (by decide)]) (t2 7 (by decide)) (t2 8 (by decide))) (by rw [t2 0 (by decide), flM_n _ _ _ _ _ (by decide)]; exact c7)
        refine c5.mk2 (fun r h0 _ => flM_n _ _ _ _ _ h0) (flM_n _ _ _ _ _ (by decide)) v10 ?_ (fun u hu => ?_) (fun p hp => ?_) (by rw [t2 0 (by decide)]) ⟨fun p hp => ?_, fun u hu => ?_, fun u hu => ?_, ?_⟩
        · have : flK Wt Ml np nr := by
            refine ⟨fun p hp => ?_, fun r hr => ?_⟩
            · rw [t2 6 (by decide)]; exact k4.1 p hp
            · rw [t2 14 (by decide), t2 15 (by decide)]; exact k4.2 r hr
          exact this.mk2 (fun r h0 _ => flM_n _ _ _ _ _ h0) (v1.trans p62.symm) (v3.trans p63.symm) (v4.trans p64.symm) v8 v9
        · obtain ⟨e1, e2, e3⟩ := k5 u hu
          obtain ⟨⟨a, ha, ea⟩, -⟩ := k2.2.2.2.2.2.2.1 u hu
          obtain ⟨t7, -⟩ := k2.2.2.2.2.1 u hu
          have nb := plF_bar c4 (t := u) (a := a) (by omega) (by omega) (t7.symm.trans ea)
          rw [t3 u hu, t2 12 (by decide), t2 13 (by decide), flM_n _ _ _ _ _ (show (50 : Nat) ≠ 0 by decide), flM_n _ _ _ _ _ (show (51 : Nat) ≠ 0 by decide), flM_n _ _ _ _ _ (show (52 : Nat) ≠ 0 by decide)]
          refine ⟨?_, e2, e3⟩
          rcases e1 with ⟨e, -⟩ | ⟨-, -, e⟩
          · by_cases hz : Wc 11 u = 0 ∧ U 2 7 u = nI p
            · rw [if_pos hz]
              refine Or.inr ⟨rfl, e.symm.trans hz.1, Or.inl ?_⟩
              rw [flM_n _ _ _ _ _ (by decide), v2, ← t7]
              exact hz.2
            · rw [if_neg hz]
              refine Or.inl ⟨e, fun z0 => ?_⟩
              rintro (z | z)
              · rw [flM_n _ _ _ _ _ (by decide), v2, ← t7] at z
                exact hz ⟨z0, z⟩
              · rw [v7] at z
                exact nb (Or.inr z)
          · exact absurd e nb
        · rw [t2 5 (by decide), t2 7 (by decide), t2 8 (by decide), t2 9 (by decide), t2 10 (by decide), flM_n _ _ _ _ _ (show (53 : Nat) ≠ 0 by decide), flM_n _ _ _ _ _ (show (54 : Nat) ≠ 0 by decide), flM_n _ _ _ _ _ (show (55 : Nat) ≠ 0 by decide), flM_n _ _ _ _ _ (show (56 : Nat) ≠ 0 by decide), flM_n _ _ _ _ _ (show (57 : Nat) ≠ 0 by decide)]
          exact k6 p hp
        · rw [t2 5 (by decide), t2 9 (by decide), t2 10 (by decide)]; exact k8 p hp
        · rw [t3 u hu, t2 12 (by decide)]
          by_cases hz : Wc 11 u = 0 ∧ U 2 7 u = nI p
          · rw [if_pos hz]
            rcases k9 u hu with ⟨e, -⟩ | ⟨-, e⟩
            · rw [hz.1] at e; exact absurd e (by decide)
            · exact Or.inr ⟨Or.inr rfl, e⟩
          · rw [if_neg hz]; exact k9 u hu
        · rw [t2 13 (by decide)]; exact k10 u hu
        · rw [t2 0 (by decide)]; exact k11
      · rw [e3, e4]; exact T5.bad hR _
    · rw [if_neg e2, if_neg e2]
      by_cases e3 : y2 = 0
      · rw [if_pos e3, if_pos e3]
        have hc5 : c = 0 ∨ c = 1 ∨ c = 2 ∨ c = 3 ∨ c = 4 := by omega
        unfold f_X11_tried_J46 f_X9_paidIf
        rw [c1, tx_b1_q]
        rcases hc5 with rfl | rfl | rfl | rfl | rfl
        · obtain ⟨Wt, t1, t2, t3⟩ := fill_6 fu hf 0 Wc
          have f0' : f_X12_tried_J46 fu (up2 (U 19) 0 2 0) (V 19) (nI 0) y2 (nI n) = _ := f0
          rw [if_pos (by decide), t1, tx_b1_q, f0']
          obtain ⟨v1, v2, v3, v4, v5, v6, v7, v8, v9, v10⟩ := flM_v Ml 1 (-1) 0 0
          refine fin Wt _ (flM_pf _ _ _ _ _) ?_ (v5.trans p61) (v6.trans p65) (c6.c (by rw [t2 0 (by decide)]) (t2 7 (by decide)) (t2 8 (by decide))) (by rw [t2 0 (by decide), flM_n _ _ _ _ _ (by decide)]; exact c7)
          refine c5.fl c4 ⟨fun p hp => ?_, fun r hr => ?_⟩ (t2 11 (by decide)) (t2 12 (by decide)) (t2 13 (by decide)) (t2 0 (by decide)) (fun p hp => ?_) (fun p hp => ?_)
          · rw [v1, if_neg one_ne, t3 p (by omega)]; exact ⟨rfl, 0, by omega, rfl⟩
          · have := k4.2 r hr
            rw [t2 14 (by decide), t2 15 (by decide), v4, v8, v9, v3, flM_n _ _ _ _ _ (show (31 : Nat) ≠ 0 by decide), flM_n _ _ _ _ _ (show (32 : Nat) ≠ 0 by decide)]
            rw [p64, p63] at this
            exact this
          · rw [t2 5 (by decide), t2 7 (by decide), t2 8 (by decide), t2 9 (by decide), t2 10 (by decide)]; exact k6 p hp
          · rw [t2 5 (by decide), t2 9 (by decide), t2 10 (by decide)]; exact k8 p hp
        · obtain ⟨Wt, t1, t2, t3⟩ := fill_9 fu hf 0 Wc
          have f1' : f_X12_tried_J46 fu (up2 (U 19) 0 2 0) (V 19) (nI 1) y2 (nI n) = _ := f1
          obtain ⟨Md, d1, d2, d3, d4⟩ := du_loop fu (V 19) (nI n) (flM Ml 0 (-1) 0 0) 6 0 _ fu (by omega) (by omega) (PF.refl _) (fun _ _ => rfl) (fun p hp => absurd hp (by omega))
          rw [if_neg (by decide), if_pos (by decide), t1, tx_b1_q, f1', d1]
          obtain ⟨v1, v2, v3, v4, v5, v6, v7, v8, v9, v10⟩ := flM_v Ml 0 (-1) 0 0
          have hW0 : WR (U 2) (U 17) Wc (flM Ml 0 (-1) 0 0) 1 np nt nr 99 (fun p => p < np) := c5.fl c4 (k4.mk2 (fun r h0 _ => flM_n _ _ _ _ _ h0) (v1.trans p62.symm) (v3.trans p63.symm) (v4.trans p64.symm) v8 v9) rfl rfl rfl rfl k6 k8
          refine fin Wt Md ((flM_pf _ _ _ _ _).trans d2) ?_ (by rw [d3 0 (by decide)]; exact v5.trans p61) (by rw [d3 0 (by decide)]; exact v6.trans p65) (c6.c (by rw [t2 0 (by decide)]) (t2 7 (by decide)) (t2 8 (by decide))) (by rw [t2 0 (by decide), d3 58 (by decide), flM_n _ _ _ _ _ (by decide)]; exact c7)
          obtain ⟨⟨j1, j2, j3, j4⟩, ⟨j5, j6, j7⟩, j8, j9, j10, j11⟩ := id hW0
          have hfl : flK Wt Md np nr := by
            have e : flK Wt (flM Ml 0 (-1) 0 0) np nr := by
              refine ⟨fun p hp => ?_, fun r hr => ?_⟩
              · rw [t2 6 (by decide)]; exact j4.1 p hp
              · rw [t2 14 (by decide), t2 15 (by decide)]; exact j4.2 r hr
            exact e.mk2 (fun r _ hr => d3 r (by omega)) (by rw [d3 0 (by decide)]) (by rw [d3 0 (by decide)]) (by rw [d3 0 (by decide)]) (by rw [d3 0 (by decide)]) (by rw [d3 0 (by decide)])
          refine hW0.mk2 (fun r _ hr => d3 r (by omega)) (d3 59 (by decide)) (fun i _ => by rw [d3 0 (by decide)]) hfl (fun u hu => ?_) (fun p hp => ?_) (by rw [t2 0 (by decide)]) ⟨fun p hp => ?_, fun u hu => ?_, fun u hu => ?_, ?_⟩
          · have eb : bar Md u ↔ bar (flM Ml 0 (-1) 0 0) u := by unfold bar; rw [d3 26 (by decide), d3 0 (by decide)]
            rw [eb, t2 11 (by decide), t2 12 (by decide), t2 13 (by decide), d3 50 (by decide), d3 51 (by decide), d3 52 (by decide)]
            exact j5 u hu
          · obtain ⟨q5, q7, q8, q9, q10⟩ := j6 p hp
            rw [t2 5 (by decide), t2 7 (by decide), t2 8 (by decide), t2 10 (by decide), t3 p (by omega), d3 53 (by decide), d3 54 (by decide), d3 55 (by decide), d3 57 (by decide), Nat.mul_one, d4 p (by omega)]
            exact ⟨q5, q7, q8, rfl, q10⟩
          · rw [t2 5 (by decide), t2 10 (by decide), t3 p (by omega)]
            exact ⟨(k8 p hp).1, ⟨0, by omega, rfl⟩, (k8 p hp).2.2⟩
          · rw [t2 11 (by decide), t2 12 (by decide)]; exact k9 u hu
          · rw [t2 13 (by decide)]; exact k10 u hu
          · rw [t2 0 (by decide)]; exact k11
        · exact absurd rfl e2
        · obtain ⟨Wt, t1, t2, t3⟩ := fill_15 fu hf 15 Wc
          have f3' : f_X12_tried_J46 fu (up2 (U 19) 0 2 0) (V 19) (nI 3) y2 (nI n) = _ := f3
          rw [if_neg (by decide), if_neg (by decide), if_neg (by decide), if_pos (by decide), t1, tx_b1_q, f3']
          obtain ⟨v1, v2, v3, v4, v5, v6, v7, v8, v9, v10⟩ := flM_v Ml 0 (-1) 1 0
          refine fin Wt _ (flM_pf _ _ _ _ _) ?_ (v5.trans p61) (v6.trans p65) (c6.c (by rw [t2 0 (by decide)]) (t2 7 (by decide)) (t2 8 (by decide))) (by rw [t2 0 (by decide), flM_n _ _ _ _ _ (by decide)]; exact c7)
          refine c5.fl c4 ⟨fun p hp => ?_, fun r hr => ?_⟩ (t2 11 (by decide)) (t2 12 (by decide)) (t2 13 (by decide)) (t2 0 (by decide)) (fun p hp => ?_) (fun p hp => ?_)
          · have := k4.1 p hp
            rw [t2 6 (by decide), v1, flM_n _ _ _ _ _ (show (25 : Nat) ≠ 0 by decide)]
            rw [p62] at this
            exact this
          · have := (k4.2 r hr).1
            rw [t2 14 (by decide), v4, v8, v9, v3, flM_n _ _ _ _ _ (show (31 : Nat) ≠ 0 by decide), t3 r (by omega)]
            rw [p64] at this
            exact ⟨this, Or.inr ⟨rfl, rfl⟩⟩
          · rw [t2 5 (by decide), t2 7 (by decide), t2 8 (by decide), t2 9 (by decide), t2 10 (by decide)]; exact k6 p hp
          · rw [t2 5 (by decide), t2 9 (by decide), t2 10 (by decide)]; exact k8 p hp
        · obtain ⟨Wt, t1, t2, t3⟩ := fill_14 fu hf 9 Wc
          have f4' : f_X12_tried_J46 fu (up2 (U 19) 0 2 0) (V 19) (nI 4) y2 (nI n) = _ := f4
          rw [if_neg (by decide), if_neg (by decide), if_neg (by decide), if_neg (by decide), t1, tx_b1_q, f4']
          obtain ⟨v1, v2, v3, v4, v5, v6, v7, v8, v9, v10⟩ := flM_v Ml 0 (-1) 0 1
          refine fin Wt _ (flM_pf _ _ _ _ _) ?_ (v5.trans p61) (v6.trans p65) (c6.c (by rw [t2 0 (by decide)]) (t2 7 (by decide)) (t2 8 (by decide))) (by rw [t2 0 (by decide), flM_n _ _ _ _ _ (by decide)]; exact c7)
          refine c5.fl c4 ⟨fun p hp => ?_, fun r hr => ?_⟩ (t2 11 (by decide)) (t2 12 (by decide)) (t2 13 (by decide)) (t2 0 (by decide)) (fun p hp => ?_) (fun p hp => ?_)
          · have := k4.1 p hp
            rw [t2 6 (by decide), v1, flM_n _ _ _ _ _ (show (25 : Nat) ≠ 0 by decide)]
            rw [p62] at this
            exact this
          · have := (k4.2 r hr).2
            rw [t2 15 (by decide), v4, if_neg one_ne, v3, flM_n _ _ _ _ _ (show (32 : Nat) ≠ 0 by decide), t3 r (by omega)]
            rw [p63] at this
            exact ⟨rfl, this⟩
          · rw [t2 5 (by decide), t2 7 (by decide), t2 8 (by decide), t2 9 (by decide), t2 10 (by decide)]; exact k6 p hp
          · rw [t2 5 (by decide), t2 9 (by decide), t2 10 (by decide)]; exact k8 p hp
      · rw [if_neg e3, if_neg e3]; exact T5.bad hR _
  · rw [if_neg a4, isIn_f fu (Or.inr (Int32.not_le.mp a4))]; exact T5.bad hR _
