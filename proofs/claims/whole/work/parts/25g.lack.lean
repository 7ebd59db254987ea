/-! what is tried with other flags -/
theorem WR.mk2 {B L W M W' M' : S32} {b np nt nr x : Nat} {S : Nat → Prop} (h : WR B L W M b np nt nr x S) (hr : ∀ r, r ≠ 0 → r < 50 → M' r = M r) (h59 : M' 59 = M 59) (hi : ∀ i, i < 48 → M' 0 i = M 0 i) (hfl : flK W' M' np nr) (hth : thR W' M' b nt x) (hpp : ppR W' M' b S) (h01 : W' 0 1 = W 0 1) (hin : inR W' np nt nr) : WR B L W' M' b np nt nr x S := by
  obtain ⟨⟨k1, k2, k3, k4⟩, ⟨k5, k6, k7⟩, k8⟩ := h
  refine ⟨⟨k1, ?_, k3.c (fun r h1 h2 => hr r (by omega) (by omega)) (hi 15 (by decide)), hfl⟩, ⟨hth, hpp, ?_⟩, hin⟩
  · unfold BKM
    rw [hi 12 (by decide), hi 13 (by decide), hi 14 (by decide), hr 26 (by decide) (by decide), hr 27 (by decide) (by decide), hr 28 (by decide) (by decide), hr 29 (by decide) (by decide)]
    exact k2
  · rw [h01, h59]; exact k7
theorem flK.mk2 {W M M' : S32} {np nr : Nat} (h : flK W M np nr) (hr : ∀ r, r ≠ 0 → r < 50 → M' r = M r) (h2 : M' 0 62 = M 0 62) (h3 : M' 0 63 = M 0 63) (h4 : M' 0 64 = M 0 64) (h8 : M' 0 68 = M 0 68) (h9 : M' 0 69 = M 0 69) : flK W M' np nr := by
  unfold flK
  rw [h2, h3, h4, h8, h9, hr 25 (by decide) (by decide), hr 31 (by decide) (by decide), hr 32 (by decide) (by decide)]
  exact h
/-- one thought is never had -/
theorem WR.lack {B L W M : S32} {np nt nr : Nat} (h : WR B L W M 1 np nt nr 99 (fun p => p < np)) (hp : plF M) {t : Nat} (ht : t < nt) (h0 : W 11 t = 0) : WR B L (up2 W 11 t 2) (up2 M 0 67 (nI t)) 1 np nt nr 99 (fun p => p < np) := by
  obtain ⟨⟨k1, k2, k3, k4⟩, ⟨k5, k6, k7⟩, k8, k9, k10, k11⟩ := id h
  have hnt : nt ≤ 12 := k2.1.2.1
  refine h.mk2 (fun r h0 _ => up2_n _ _ _ h0) (up2_n _ _ _ (by decide)) (fun i hi => up2_i _ _ _ (by omega)) (flK.mk2 (M := M) ?_ (fun r h0 _ => up2_n _ _ _ h0) (up2_i _ _ _ (by decide)) (up2_i _ _ _ (by decide)) (up2_i _ _ _ (by decide)) (up2_i _ _ _ (by decide)) (up2_i _ _ _ (by decide))) (fun u hu => ?_) (fun p hp => ?_) rfl ⟨fun p hp => k8 p hp, fun u hu => ?_, fun u hu => k10 u hu, k11⟩
  · exact k4
  · obtain ⟨e1, e2, e3⟩ := k5 u hu
    obtain ⟨⟨a, ha, ea⟩, -⟩ := k2.2.2.2.2.2.2.1 u hu
    obtain ⟨t7, -⟩ := k2.2.2.2.2.1 u hu
    have nb := plF_bar hp (t := u) (a := a) (by omega) (by have := k2.1.1; omega) (t7.symm.trans ea)
    rw [up2_a, up2_n _ _ _ (show (50 : Nat) ≠ 0 by decide)]
    refine ⟨?_, e2, e3⟩
    by_cases hut : u = t
    · subst hut
      rw [if_pos ⟨rfl, rfl⟩]
      refine Or.inr ⟨rfl, ?_, Or.inr (up2_e _ _ _ _).symm⟩
      rcases e1 with ⟨e, -⟩ | ⟨e, -, -⟩
      · rw [← e, h0]
      · rw [h0] at e; exact absurd e (by decide)
    · rw [if_neg (fun z => hut z.2)]
      rcases e1 with ⟨e, e'⟩ | ⟨-, -, e⟩
      · refine Or.inl ⟨e, fun _ => ?_⟩
        rintro (z | z)
        · rw [up2_n _ _ _ (by decide), up2_i _ _ _ (by decide)] at z
          exact nb (Or.inl z)
        · rw [up2_e] at z
          exact hut ((nI_eq (by omega) (by omega)).mp z)
      · exact absurd e nb
  · exact k6 p hp
  · rw [up2_a, up2_n _ _ _ (show (12 : Nat) ≠ 11 by decide)]
    by_cases hut : u = t
    · subst hut
      rw [if_pos ⟨rfl, rfl⟩]
      rcases k9 u hu with ⟨e, -⟩ | ⟨-, e⟩
      · rw [h0] at e; exact absurd e (by decide)
      · exact Or.inr ⟨Or.inr rfl, e⟩
    · rw [if_neg (fun z => hut z.2)]
      exact k9 u hu
theorem wl_loop (fu : Nat) (hf : 1000 ≤ fu) {B L W0 M0 : S32} {v0 : S64} {np nt nr w : Nat} (hN : NW B L W0 M0 np nt nr w) {T0 Wa Y : S32} {vL0 vN0 vLa vNa : S64} {Wc0 : S32} (hT0 : T0 0 15 = 0 ∨ T0 0 15 = 1) (hc0 : f_X10_copy fu W0 T0 = some Wc0) (hg0 : f_X10_goWeeks fu B L Wc0 vL0 vN0 (nI 20) 0 = some (Wa, vLa, vNa)) (hka : wkOK Wa np (w + 20)) (hY : ∀ p, p < np → Y 2 p = Wa 7 p + Wa 8 p) : ∀ (m i : Nat) (T : S32) (vL vN : S64) (M : S32) (v : S64) (bits : Int32) (nc nf : Nat), TI M0 v0 T M v → i + m = nt → m < nc → m < nf →
    ∃ r T' vL' vN' M' v', f_X9_dearThoughts_L26 fu W0 B L nc Y T vL vN bits (nI i) = some (r, Y, T', vL', vN') ∧ f_X12_worthless_L9 fu nf M v bits (nI i) = some (r, M', v') ∧ TI M0 v0 T' M' v' := by
  obtain ⟨⟨hnp, hnt, hnr⟩, ⟨b1, m1⟩, ⟨b5, m5⟩, -, -, hbt, -, -, -, hwt, -, -, hbi, hwi⟩ := id hN.1
  have hw := hN.2.2.2.1
  intro m
  induction m with
  | zero =>
    intro i T vL vN M v bits nc nf hT hi hc hf2
    obtain ⟨nc, rfl⟩ := pos_ex hc
    obtain ⟨nf, rfl⟩ := pos_ex hf2
    refine ⟨bits, T, vL, vN, pT M, v, ?_, ?_, ⟨hT.1.trans (pT_pf M), hT.2⟩⟩
    · show f_X9_dearThoughts_J26 _ _ _ _ _ _ _ _ _ _ _ = _
      unfold f_X9_dearThoughts_J26
      rw [b5, if_pos (nI_le (by omega) (by omega))]
    · show f_X12_worthless_J9 _ _ _ _ _ _ = _
      unfold f_X12_worthless_J9
      rw [(hT.1 0 13 (by decide)).trans m5, if_pos (nI_le (by omega) (by omega)), pT_f, tx_b1_q]
  | succ m ih =>
    intro i T vL vN M v bits nc nf hT hi hc hf2
    obtain ⟨nc, rfl⟩ := pos_ex hc
    obtain ⟨nf, rfl⟩ := pos_ex hf2
    have hit : i < nt := by omega
    have hM5 := (hT.1 0 13 (by decide)).trans m5
    have hNM := hN.pf hT.1
    obtain ⟨-, -, -, -, -, hbtM, -, -, -, hwtM, -⟩ := id hNM.1
    have ckc := fun k : Option (Int32 × S32 × S32 × S64 × S64) => tx_ck_q (j := i) (n := 12) (by omega) (by omega) k
    have ckr := fun k : Option (Int32 × S32 × S64) => tx_ck_q (j := i) (n := 24) (by omega) (by omega) k
    have cl := nI_clamp (n := i) (by omega)
    by_cases h0 : W0 11 i = 0
    · obtain ⟨⟨p, hp, ep⟩, -⟩ := hbi.2.1 i hit
      have em : M 26 i = nI p := (hbtM i hit).1.symm.trans ep
      have e50 : M 50 i = 0 := (hwtM i hit).1.symm.trans h0
      -- the usual course once more
      obtain ⟨Wc, Ml, c1, c2, c3, c4, c5, c6, c7, -⟩ := tr_lay fu hf hNM v T0 hT0
      obtain ⟨W1, vL1, vN1, M1, v1, g1, g2, g3, g4, g5, g6, g7⟩ := trial fu hf (n := 20) hN (T := T) hT vL0 vN0 (by omega) c3 c5 c4.1 c4.2.2.2.2.1 c6 c7
      rw [hc0] at c1
      injection c1 with c1
      subst c1
      rw [hg0] at g1
      injection g1 with g1
      injection g1 with e1 g1
      subst e1
      -- and without the thought
      obtain ⟨Wd, Mm, d1, d2, d3, d4, d5, d6, d7, -, -, -, -, d12, -⟩ := tr_lay fu hf g4 v1 T hT.2.2.2
      have hTT : TI M0 v0 T M1 v1 := ⟨g3.1, g3.2.1, g3.2.2.1, hT.2.2.2⟩
      have hd0 : Wd 11 i = 0 := (d12 i (by omega)).1.trans h0
      obtain ⟨W2, vL2, vN2, M2, v2, k1, k2, k3, k4, k5, k6, k7⟩ := trial fu hf (n := 20) hN hTT vL vN (by omega) (d3.trans ((PF.refl Mm).up (nI i) (show rl 0 67 = false by decide))) (d5.lack d4 hit hd0) (by rw [up2_i _ _ _ (by decide)]; exact d4.1) (by rw [up2_i _ _ _ (by decide)]; exact d4.2.2.2.2.1) (d6.c rfl rfl rfl) (by rw [up2_n _ _ _ (by decide)]; exact d7)
      have e2 := tx_le hka k6 hN.2.2.1 hp (by omega) (by omega) (by omega)
      have C : f_X9_dearThoughts_L26 fu W0 B L (nc + 1) Y T vL vN bits (nI i) = f_X9_dearThoughts_L26 fu W0 B L nc Y W2 vL2 vN2 (bits ||| if Wa 7 p + Wa 8 p ≤ W2 7 p + W2 8 p then 0 else (1 : Int32) <<< (nI i &&& 31)) (nI (i + 1)) := by
        show f_X9_dearThoughts_J26 _ _ _ _ _ _ _ _ _ _ _ = _
        unfold f_X9_dearThoughts_J26 f_X9_dearThoughts_J130 f_X9_dearThoughts_J132
        have k1' : f_X10_goWeeks fu B L (up2 Wd 11 i 2) vL vN 20 0 = some (W2, vL2, vN2) := k1
        rw [b5, if_neg (ge_lit (by omega) (by omega)), if_neg (ge12 (by omega)), cl, ckc, ep, tx_let_q, ckc, if_pos h0, c_isM fu b1 hnp hp, tx_b1_q, if_neg one_ne, d1, tx_b1_q, ckc, tx_let_q, k1', tx_b3_q, c_tax fu b1 hnp hp, tx_b1_q, tx_ck_q (by omega) (by omega), nI_clamp (n := p) (by omega), hY p hp]
        simp only [tx_let_q, nI_1]
        split <;> rfl
      have R : f_X12_worthless_L9 fu (nf + 1) M v bits (nI i) = f_X12_worthless_L9 fu nf M2 v2 (bits ||| if Wa 7 p + Wa 8 p ≤ W2 7 p + W2 8 p then 0 else (1 : Int32) <<< (nI i &&& 31)) (nI (i + 1)) := by
        show f_X12_worthless_J9 _ _ _ _ _ _ = _
        unfold f_X12_worthless_J9 f_X12_worthless_J86 f_X12_worthless_J88
        have g2' : f_X12_goMany fu Ml v 20 = some (M1, v1) := g2
        have k2' : f_X12_goMany fu (up2 Mm 0 67 (nI i)) v1 20 = some (M2, v2) := k2
        rw [hM5, if_neg (ge_lit (by omega) (by omega)), cl, ckr, if_pos e50, ckr, tx_let_q, em, c2, tx_b1_q, g2', tx_b2_q, m_more fu v1 g4 g5 hp, tx_b1_q, d2, tx_b1_q, tx_let_q, k2', tx_b2_q, m_more fu v2 k4 k5 hp, tx_b1_q]
        simp only [tx_let_q, nI_1, e2]
        split <;> rfl
      rw [C, R]
      exact ih (i + 1) W2 vL2 vN2 M2 v2 _ nc nf k3 (by omega) (by omega) (by omega)
    · have e50 : ¬ M 50 i = 0 := fun z => h0 ((hwtM i hit).1.trans z)
      have C : f_X9_dearThoughts_L26 fu W0 B L (nc + 1) Y T vL vN bits (nI i) = f_X9_dearThoughts_L26 fu W0 B L nc Y T vL vN bits (nI (i + 1)) := by
        show f_X9_dearThoughts_J26 _ _ _ _ _ _ _ _ _ _ _ = _
        unfold f_X9_dearThoughts_J26 f_X9_dearThoughts_J132
        rw [b5, if_neg (ge_lit (by omega) (by omega)), if_neg (ge12 (by omega)), cl, ckc, tx_let_q, ckc, if_neg h0, tx_let_q, nI_1]
      have R : f_X12_worthless_L9 fu (nf + 1) M v bits (nI i) = f_X12_worthless_L9 fu nf M v bits (nI (i + 1)) := by
        show f_X12_worthless_J9 _ _ _ _ _ _ = _
        unfold f_X12_worthless_J9 f_X12_worthless_J88
        rw [hM5, if_neg (ge_lit (by omega) (by omega)), cl, ckr, if_neg e50, tx_let_q, nI_1]
      rw [C, R]
      exact ih (i + 1) T vL vN M v _ nc nf hT (by omega) (by omega) (by omega)
theorem sp18 (fu : Nat) (hf : 1000 ≤ fu) : SP18 RR fu := by
  intro k q U V hR
  obtain ⟨np, nt, nr, w, hN⟩ := RR_NW hR
  obtain ⟨⟨hnp, hnt, hnr⟩, ⟨b1, m1⟩, -⟩ := id hN.1
  have hT0 := TI.first hR
  obtain ⟨Wc, Ml, c1, c2, c3, c4, c5, c6, c7, -⟩ := tr_lay fu hf hN (V 19) (U 7) hT0.2.2.2
  obtain ⟨Wa, vL1, vN1, M1, v1, g1, g2, g3, g4, g5, g6, g7⟩ := trial fu hf (n := 20) hN hT0 (V 17) (V 8) (by omega) c3 c5 c4.1 c4.2.2.2.2.1 c6 c7
  obtain ⟨Y', y1', y2'⟩ := nt_loop fu (W := Wa) b1 hnp np 0 (U 6) fu (fun p hp => absurd hp (by omega)) (by omega) (by omega)
  have hTa : TI (up2 (U 19) 0 2 0) (V 19) Wa (up2 (U 19) 0 2 0) (V 19) := ⟨PF.refl _, rfl, rfl, g3.2.2.2⟩
  obtain ⟨r, T', vL', vN', M', v', z1, z2, z3⟩ := wl_loop fu hf hN hT0.2.2.2 c1 g1 g6 y2' nt 0 Wa vL1 vN1 _ (V 19) 0 fu fu hTa (by omega) (by omega) (by omega)
  unfold f_X11_worthless f_X12_worthless f_X9_dearThoughts
  have y1'' : f_X9_noteTaxes fu Wa (U 2) (U 6) = some Y' := y1'
  have g1' : f_X10_goWeeks fu (U 2) (U 17) Wc (V 17) (V 8) 20 0 = some (Wa, vL1, vN1) := g1
  have z1' : f_X9_dearThoughts_L26 fu (U 1) (U 2) (U 17) fu Y' Wa vL1 vN1 0 0 = some (r, Y', T', vL', vN') := z1
  have z2' : f_X12_worthless_L9 fu fu (up2 (U 19) 0 2 0) (V 19) 0 0 = some (r, M', v') := z2
  rw [tx_let_q, c1, tx_b1_q, g1', tx_b3_q, y1'', tx_b1_q, z1', z2', tx_b5_q]
  exact ⟨_, _, _, _, _, _, _, rfl, rfl, RR_T hR ((PF.t _).trans z3.1) z3.2.2.2 z3.2.1 z3.2.2.1 _ _ _⟩
