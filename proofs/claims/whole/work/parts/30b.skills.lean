/-! how skilled a reader is, by what is known -/
def KI (F M : S32) (nt n0 c lw : Nat) : Prop := FE F M nt n0 c ∧ ckR F M c ∧ lw ≤ 40 ∧ ∀ j, j < c → F 4 j = -1 → F 5 j = 0 → ∃ w, w ≤ lw ∧ F 1 j = nI w
theorem KI.e {F M M' : S32} {nt n0 c lw : Nat} (h : KI F M nt n0 c lw) (h74 : M' 74 = M 74) (h75 : M' 75 = M 75) (h71 : M' 0 71 = M 0 71) (h72 : M' 0 72 = M 0 72) : KI F M' nt n0 c lw := by
  refine ⟨h.1.c (fun _ _ => rfl) h74 h71 h72, ?_, h.2.2⟩
  unfold ckR
  rw [h75]
  exact h.2.1
theorem KI.fr {F M M' : S32} {nt n0 c lw : Nat} (h : KI F M nt n0 c lw) (hf : FR 1 M M') : KI F M' nt n0 c lw :=
  h.e (by funext i; exact hf 74 i (by unfold sc; omega)) (by funext i; exact hf 75 i (by unfold sc; omega)) (hf 0 71 (by unfold sc; omega)) (hf 0 72 (by unfold sc; omega))
def FT (B L W M : S32) (np nt nr w : Nat) : Prop := WR B L W M 1 np nt nr 99 (fun p => p < np) ∧ M 0 61 = 0 ∧ M 0 65 = 0 ∧ wkOK W np w ∧ W 0 2 = M 58 1
theorem wk_one (fu : Nat) (hf : 1000 ≤ fu) {B L W M : S32} {np nt nr w : Nat} (vL vN v : S64) (hw : w ≤ 20000) (h : FT B L W M np nt nr w) : ∃ W1 vL1 vN1 M1 v1, f_X10_goWeeks fu B L W vL vN 1 0 = some (W1, vL1, vN1) ∧ f_X12_weekGoes fu M v 1 = some (M1, v1) ∧ FT B L W1 M1 np nt nr (w + 1) ∧ FR 1 M M1 ∧ v1 0 59 = v 0 59 ∧ v1 0 80 = v 0 80 := by
  obtain ⟨hW, h61, h65, hk, hrt⟩ := h
  obtain ⟨W1, vL1, vN1, a1, a2, a3, a4, -, a6⟩ := week1 fu hf (x3 := 0) vL vN (v := v) hw hW ⟨h61, Or.inl rfl⟩ h65 hk
  obtain ⟨M1, v1, c1, c2, c3, c4, c5, c6⟩ := a6 (Or.inl hrt)
  have hg : f_X10_goWeeks fu B L W vL vN 1 0 = some (W1, vL1, vN1) := by
    obtain ⟨fu', rfl⟩ : ∃ k, fu = k + 1 + 1 := ⟨fu - 2, by omega⟩
    have e := a1 (f_X10_goWeeks_L2 (fu' + 1 + 1) B L (fu' + 1)) 1 0 (by omega) (by omega)
    refine Eq.trans (show f_X10_goWeeks (fu' + 1 + 1) B L W vL vN 1 0 = f_X10_goWeeks_J2 (fu' + 1 + 1) B L (f_X10_goWeeks_L2 (fu' + 1 + 1) B L (fu' + 1)) W vL vN (nI 1) 0 (nI 0) from rfl) ?_
    rw [e]
    show f_X10_goWeeks_J2 _ _ _ _ _ _ _ _ _ _ = _
    unfold f_X10_goWeeks_J2
    rw [if_pos (by decide)]
  exact ⟨W1, vL1, vN1, M1, v1, hg, c1, ⟨c2, by rw [c5 0 61 (by unfold sc; omega)]; exact h61, by rw [c5 0 65 (by unfold sc; omega)]; exact h65, a4.1, by rw [a3, c5 58 1 (by unfold sc; omega)]; exact hrt⟩, c5, (c4.2.2 rfl).1, c4.2.1 80 (by decide)⟩
theorem so_q (fu : Nat) (hf : 1000 ≤ fu) {F B L W M : S32} (v : S64) {np nt nr w n0 c lw d : Nat} (h : FT B L W M np nt nr w) (hK : KI F M nt n0 c lw) (hd : d ≤ 40) : ∃ r, f_X2_agrees fu F W B (nI d) = some r ∧ f_X12_isSo fu M v (nI d) = some r ∧ (r = 0 ∨ r = 1) ∧ (lw < d → r = 1) := by
  obtain ⟨⟨⟨-, ⟨⟨-, hnt, -⟩, -, ⟨b5, -⟩, -⟩, -⟩, ⟨hth, -, -⟩, hin⟩, -⟩ := h
  have hc : c ≤ 24 := Nat.le_trans hK.1.2.1 hK.1.1
  have hn := hK.1.1
  exact ag_so fu hf hK.1 hK.2.1 b5 hnt (fun t ht => (hth t ht).2.2 (by omega) (by omega)) hin.2.2.1 hd hK.2.2.2 hK.2.2.1 c 0 fu fu (by omega) (by omega) (by omega)
theorem ref_rest (fu : Nat) (hf : 1000 ≤ fu) {F B L : S32} {np nt nr n0 c lw : Nat} : ∀ m d w W M v n, d + m = 41 → m < n → lw < d → w + m ≤ 20000 → FT B L W M np nt nr w → KI F M nt n0 c lw → ∃ M' v', f_X12_fits_L21 fu n M v (nI d) = some (1, M', v') ∧ FR 1 M M' ∧ v' 0 59 = v 0 59 ∧ v' 0 80 = v 0 80 := by
  intro m
  induction m with
  | zero =>
    intro d w W M v n hd hn hl hw hT hK
    obtain ⟨n, rfl⟩ := pos_ex hn
    refine ⟨M, v, ?_, FR.refl _ _, rfl, rfl⟩
    show f_X12_fits_J21 _ _ _ _ _ = _
    unfold f_X12_fits_J21
    rw [if_pos (show (40 : Int32) < nI d from nI_lt (a := 40) (by omega) (by omega))]
  | succ m ih =>
    intro d w W M v n hd hn hl hw hT hK
    obtain ⟨n, rfl⟩ := pos_ex hn
    obtain ⟨W1, vL1, vN1, M1, v1, a1, a2, a3, a4, a5, a6⟩ := wk_one fu hf v v v (by omega) hT
    obtain ⟨r, b1, b2, b3, b4⟩ := so_q fu hf v1 a3 (hK.fr a4) (d := d) (by omega)
    obtain ⟨M', v', c1, c2, c3, c4⟩ := ih (d + 1) (w + 1) W1 M1 v1 n (by omega) (by omega) (by omega) (by omega) a3 (hK.fr a4)
    refine ⟨M', v', ?_, a4.trans c2, c3.trans a5, c4.trans a6⟩
    rw [← c1]
    show f_X12_fits_J21 _ _ _ _ _ = _
    unfold f_X12_fits_J21
    rw [if_neg (show ¬ (40 : Int32) < nI d from nI_nlt (a := 40) (by omega) (by omega)), a2, tx_b2_q, b2, tx_b1_q, b4 hl, if_neg one_ne, tx_let_q, nI_1]
theorem fit_loop (fu : Nat) (hf : 1000 ≤ fu) {F B L : S32} {np nt nr n0 c lw : Nat} (hl : lw ≤ 40) (Y : S32) (p0 k0 : Nat) (K16 : S32 → S32 → S64 → S64 → Nat → Int32 → Int32 → Int32 → Int32 → Option (Int32 × S32 × S32 × S64 × S64 × Nat)) (w3 w5 w6 : Int32) : ∀ m d w W vL vN M v nc nf, d + m = 41 → d ≤ lw + 1 → m + 1 < nc → m < nf → w + m ≤ 20000 → FT B L W M np nt nr w → KI F M nt n0 c lw →
    ∃ f W' vL' vN' M' v', f_X9_skillsBy_L56 fu Y B L p0 k0 K16 nc F W vL vN w3 (nI lw) w5 w6 1 (nI d) = f_X9_skillsBy_J95 fu Y B L p0 k0 K16 F W' vL' vN' w3 (nI lw) w5 w6 f ∧ f_X12_fits_L21 fu nf M v (nI d) = some (f, M', v') ∧ (f = 0 ∨ f = 1) ∧ FR 1 M M' ∧ v' 0 59 = v 0 59 ∧ v' 0 80 = v 0 80 ∧ (W' 0 15 = 0 ∨ W' 0 15 = 1) := by
  intro m
  induction m with
  | zero =>
    intro d w W vL vN M v nc nf hd hdl hc hn hw hT hK
    obtain ⟨nc, rfl⟩ := pos_ex (show 0 < nc by omega)
    obtain ⟨nf, rfl⟩ := pos_ex hn
    refine ⟨1, W, vL, vN, M, v, ?_, ?_, Or.inr rfl, FR.refl _ _, rfl, rfl, hT.1.2.2.2.2.2.2⟩
    · show f_X9_skillsBy_J56 _ _ _ _ _ _ _ _ _ _ _ _ _ _ _ _ _ _ = _
      unfold f_X9_skillsBy_J56
      rw [if_pos (nI_lt (show lw < d by omega) (by omega))]
    · show f_X12_fits_J21 _ _ _ _ _ = _
      unfold f_X12_fits_J21
      rw [if_pos (show (40 : Int32) < nI d from nI_lt (a := 40) (by omega) (by omega))]
  | succ m ih =>
    intro d w W vL vN M v nc nf hd hdl hc hn hw hT hK
    obtain ⟨nc, rfl⟩ := pos_ex (show 0 < nc by omega)
    by_cases hlt : lw < d
    · obtain ⟨M', v', c1, c2, c3, c4⟩ := ref_rest fu hf (m + 1) d w W M v nf hd hn hlt hw hT hK
      refine ⟨1, W, vL, vN, M', v', ?_, c1, Or.inr rfl, c2, c3, c4, hT.1.2.2.2.2.2.2⟩
      show f_X9_skillsBy_J56 _ _ _ _ _ _ _ _ _ _ _ _ _ _ _ _ _ _ = _
      unfold f_X9_skillsBy_J56
      rw [if_pos (nI_lt hlt (by omega))]
    · obtain ⟨nf, rfl⟩ := pos_ex hn
      obtain ⟨W1, vL1, vN1, M1, v1, a1, a2, a3, a4, a5, a6⟩ := wk_one fu hf vL vN v (by omega) hT
      obtain ⟨r, b1, b2, b3, b4⟩ := so_q fu hf v1 a3 (hK.fr a4) (d := d) (by omega)
      have C : f_X9_skillsBy_L56 fu Y B L p0 k0 K16 (nc + 1) F W vL vN w3 (nI lw) w5 w6 1 (nI d) = f_X9_skillsBy_L56 fu Y B L p0 k0 K16 nc F W1 vL1 vN1 w3 (nI lw) w5 w6 r (nI (d + 1)) := by
        show f_X9_skillsBy_J56 _ _ _ _ _ _ _ _ _ _ _ _ _ _ _ _ _ _ = _
        unfold f_X9_skillsBy_J56
        rw [if_neg (nI_nlt (by omega) (by omega)), if_neg one_ne, a1, tx_b3_q, b1, tx_b1_q, tx_let_q, nI_1]
      rcases b3 with rfl | rfl
      · refine ⟨0, W1, vL1, vN1, M1, v1, ?_, ?_, Or.inl rfl, a4, a5, a6, a3.1.2.2.2.2.2.2⟩
        · rw [C]
          obtain ⟨nc, rfl⟩ := pos_ex (show 0 < nc by omega)
          show f_X9_skillsBy_J56 _ _ _ _ _ _ _ _ _ _ _ _ _ _ _ _ _ _ = _
          unfold f_X9_skillsBy_J56
          by_cases z : nI lw < nI (d + 1)
          · rw [if_pos z]
          · rw [if_neg z, if_pos rfl]
        · show f_X12_fits_J21 _ _ _ _ _ = _
          unfold f_X12_fits_J21
          rw [if_neg (show ¬ (40 : Int32) < nI d from nI_nlt (a := 40) (by omega) (by omega)), a2, tx_b2_q, b2, tx_b1_q, if_pos rfl]
      · obtain ⟨f, W', vL', vN', M', v', g1, g2, g3, g4, g5, g6, g7⟩ := ih (d + 1) (w + 1) W1 vL1 vN1 M1 v1 nc nf (by omega) (by omega) (by omega) (by omega) (by omega) a3 (hK.fr a4)
        refine ⟨f, W', vL', vN', M', v', C.trans g1, ?_, g3, a4.trans g4, g5.trans a5, g6.trans a6, g7⟩
        rw [← g2]
        show f_X12_fits_J21 _ _ _ _ _ = _
        unfold f_X12_fits_J21
        rw [if_neg (show ¬ (40 : Int32) < nI d from nI_nlt (a := 40) (by omega) (by omega)), a2, tx_b2_q, b2, tx_b1_q, if_neg one_ne, tx_let_q, nI_1]
theorem first_q (fu : Nat) (hf : 1000 ≤ fu) {B L W0 M : S32} {np nt nr w : Nat} (hN : NW B L W0 M np nt nr w) {T : S32} (hT : T 0 15 = 0 ∨ T 0 15 = 1) (v : S64) {r s : Nat} (hr : r < nr) : ∃ Wb M1, f_X10_begin fu B T = some Wb ∧ f_X12_atFirst fu v M 1 = some M1 ∧ PF M (up2 (up2 (pT M1) 0 68 (nI r)) 0 69 (nI s)) ∧ FT B L (up2 Wb 14 r (nI s)) (up2 (up2 (pT M1) 0 68 (nI r)) 0 69 (nI s)) np nt nr 0 ∧ (∀ q, q ≠ 0 → q < 50 ∨ 59 < q → (up2 (up2 (pT M1) 0 68 (nI r)) 0 69 (nI s)) q = M q) ∧ (∀ i, 70 ≤ i → (up2 (up2 (pT M1) 0 68 (nI r)) 0 69 (nI s)) 0 i = M 0 i) := by
  obtain ⟨⟨hnp, hnt, hnr⟩, ⟨b1, m1⟩, ⟨b5, m5⟩, ⟨b10, m10⟩, hbp, hbt, hbr, hb0, hwp, hwt, hwr, hw0, hbi, hwi⟩ := hN.1
  obtain ⟨Wb, w1, w2, w3, w4, w5, w6, w7, w8⟩ := bgn fu hf T b10 hnr
  obtain ⟨M1, c1, c2, c3, c4, c5, c6⟩ := at_q fu hf v M (b := 1) (nr := nr) (by omega) hnr m10
  have c1' : f_X12_atFirst fu v M 1 = some M1 := c1
  have hP1 : PF M M1 := by
    intro q i hq
    refine c2 q i (fun z => ?_) (fun z => ?_) (fun z => ?_)
    · rw [hi12 z.1 (by omega)] at hq; cases hq
    · rw [hi6 (by omega) (by omega)] at hq; cases hq
    · obtain ⟨z1, rfl⟩ := z
      rcases z1 with rfl | rfl
      · exact absurd hq (by decide)
      · exact absurd hq (by decide)
  have hP : PF M (up2 (up2 (pT M1) 0 68 (nI r)) 0 69 (nI s)) := ((hP1.trans (pT_pf M1)).up _ (by decide)).up _ (by decide)
  have hr1 : ∀ q, q < 50 ∨ 59 < q → M1 q = M q := fun q h => by
    funext i
    exact c2 q i (by omega) (by omega) (by omega)
  have hq : ∀ q, q ≠ 0 → (up2 (up2 (pT M1) 0 68 (nI r)) 0 69 (nI s)) q = M1 q := fun q h => by rw [up2_n _ _ _ h, up2_n _ _ _ h, pT_n _ h]
  have hi70 : ∀ i, 70 ≤ i → (up2 (up2 (pT M1) 0 68 (nI r)) 0 69 (nI s)) 0 i = M 0 i := fun i h => by
    rw [up2_i _ _ _ (by omega), up2_i _ _ _ (by omega)]
    unfold pT
    rw [up2_i _ _ _ (by omega), up2_i _ _ _ (by omega), up2_i _ _ _ (by omega), up2_i _ _ _ (by omega), up2_i _ _ _ (by omega), up2_i _ _ _ (by omega), up2_i _ _ _ (by omega), up2_i _ _ _ (by omega), up2_i _ _ _ (by omega), hr1 0 (by omega)]
  obtain ⟨p61, p62, p63, p64, p65, p66, p67, p68, p69⟩ := pT_v M1
  have q62 : (up2 (up2 (pT M1) 0 68 (nI r)) 0 69 (nI s)) 0 62 = 0 := by rw [up2_i _ _ _ (by decide), up2_i _ _ _ (by decide)]; exact p62
  have q63 : (up2 (up2 (pT M1) 0 68 (nI r)) 0 69 (nI s)) 0 63 = 0 := by rw [up2_i _ _ _ (by decide), up2_i _ _ _ (by decide)]; exact p63
  have q64 : (up2 (up2 (pT M1) 0 68 (nI r)) 0 69 (nI s)) 0 64 = 0 := by rw [up2_i _ _ _ (by decide), up2_i _ _ _ (by decide)]; exact p64
  have q66 : (up2 (up2 (pT M1) 0 68 (nI r)) 0 69 (nI s)) 0 66 = -1 := by rw [up2_i _ _ _ (by decide), up2_i _ _ _ (by decide)]; exact p66
  have q67 : (up2 (up2 (pT M1) 0 68 (nI r)) 0 69 (nI s)) 0 67 = -1 := by rw [up2_i _ _ _ (by decide), up2_i _ _ _ (by decide)]; exact p67
  have q68 : (up2 (up2 (pT M1) 0 68 (nI r)) 0 69 (nI s)) 0 68 = nI r := by rw [up2_i _ _ _ (by decide), up2_e]
  have q69 : (up2 (up2 (pT M1) 0 68 (nI r)) 0 69 (nI s)) 0 69 = nI s := up2_e _ _ _ _
  have zW : ∀ q, q ≠ 14 → (up2 Wb 14 r (nI s)) q = Wb q := fun q h => up2_n _ _ _ h
  refine ⟨Wb, M1, w1, c1', hP, ⟨⟨⟨by omega, ⟨⟨hnp, hnt, hnr⟩, ⟨b1, ?_⟩, ⟨b5, ?_⟩, ⟨b10, ?_⟩, fun t ht => ?_, hbi⟩, hN.2.1.pf hP, ⟨fun p hp => ?_, fun r' hr' => ?_⟩⟩, ⟨fun t ht => ?_, fun p hp => ?_, ?_⟩, ⟨fun p hp => ?_, fun t ht => ?_, fun t ht => ?_, ?_, ?_⟩⟩, ?_, ?_, ⟨?_, fun p hp => ?_⟩, ?_⟩, fun q a b => by rw [hq q a, hr1 q b], hi70⟩
  · rw [hP 0 12 (by decide)]; exact m1
  · rw [hP 0 13 (by decide)]; exact m5
  · rw [hP 0 14 (by decide)]; exact m10
  · rw [hq 26 (by decide), hq 27 (by decide), hq 28 (by decide), hq 29 (by decide), hr1 26 (by omega), hr1 27 (by omega), hr1 28 (by omega), hr1 29 (by omega)]
    exact hbt t ht
  · rw [q62, if_pos rfl, zW 6 (by decide), (w6 p (by omega)).2.1, hq 25 (by decide), hr1 25 (by omega)]
    exact ⟨(hbp p hp).2.2, (hbi.1 p hp).2⟩
  · rw [q64, if_pos rfl, q68, q69, zW 15 (by decide), (w8 r' (by omega)).2, hq 31 (by decide), hr1 31 (by omega), hq 32 (by decide), hr1 32 (by omega)]
    refine ⟨?_, Or.inl ⟨q63, (hbr r' hr').2.2⟩⟩
    by_cases e : r' = r
    · subst e
      rw [up2_e, if_pos rfl]
    · rw [up2_i _ _ _ e, if_neg (fun z => e ((nI_eq (by omega) (by omega)).mp z)), (w8 r' (by omega)).1]
      exact (hbr r' hr').2.1
  · obtain ⟨a1, a2, a3⟩ := w7 t (by omega)
    obtain ⟨e1, e2, e3⟩ := c3 t (by omega)
    obtain ⟨a, ha, ea⟩ := (hbi.2.1 t ht).1
    rw [zW 11 (by decide), zW 12 (by decide), zW 13 (by decide), hq 50 (by decide), hq 51 (by decide), hq 52 (by decide), a1, a2, a3, e1, e2, e3]
    refine ⟨Or.inl ⟨rfl, fun _ => ?_⟩, rfl, fun _ _ => rfl⟩
    unfold bar
    rw [hq 26 (by decide), hr1 26 (by omega), ← (hbt t ht).1, ea, q66, q67]
    rintro (z | z)
    · exact m1_ne (by omega) z
    · exact m1_ne (by omega) z
  · obtain ⟨a1, a2, a3, a4, a5, a6⟩ := w6 p (show p < 6 from by have : p < np := hp; omega)
    obtain ⟨e1, e2, e3, e4, e5⟩ := c4 p (show p < 6 from by have : p < np := hp; omega)
    rw [zW 5 (by decide), zW 7 (by decide), zW 8 (by decide), zW 9 (by decide), zW 10 (by decide), hq 53 (by decide), hq 54 (by decide), hq 55 (by decide), hq 56 (by decide), hq 57 (by decide), a1, a3, a4, a5, a6, e1, e2, e3, e4, e5]
    exact ⟨(hbp p hp).2.1, rfl, rfl, rfl, rfl⟩
  · rw [zW 0 (by decide), w2, hq 59 (by decide), c6]
  · obtain ⟨a1, a2, a3, a4, a5, a6⟩ := w6 p (by omega)
    rw [zW 5 (by decide), zW 9 (by decide), zW 10 (by decide), a1, a5, a6]
    refine ⟨(hbi.1 p hp).1, ⟨0, by omega, rfl⟩, ?_⟩
    unfold rv
    by_cases h0 : nr = 0
    · rw [if_pos h0]; exact Or.inl ⟨h0, rfl⟩
    · rw [if_neg h0]; exact Or.inr ⟨p % nr, Nat.mod_lt _ (by omega), rfl⟩
  · obtain ⟨a1, a2, a3⟩ := w7 t (by omega)
    rw [zW 11 (by decide), zW 12 (by decide), a1, a2]
    exact Or.inr ⟨Or.inl rfl, rfl⟩
  · rw [zW 13 (by decide)]
    exact Or.inl (w7 t (by omega)).2.2
  · rw [zW 0 (by decide), w3]; exact hbi.2.2.2.1
  · rw [zW 0 (by decide), w5]; exact hT
  · rw [up2_i _ _ _ (by decide), up2_i _ _ _ (by decide)]; exact p61
  · rw [up2_i _ _ _ (by decide), up2_i _ _ _ (by decide)]; exact p65
  · rw [zW 0 (by decide), w2]; rfl
  · obtain ⟨a1, a2, a3, a4, a5, a6⟩ := w6 p (by omega)
    rw [zW 7 (by decide), zW 8 (by decide), a3, a4]
    exact ⟨⟨0, by omega, rfl⟩, ⟨0, by omega, rfl⟩⟩
  · rw [zW 0 (by decide), w3, hq 58 (by decide), c5]
    exact hb0.1
theorem sk_loop (fu : Nat) (hf : 1000 ≤ fu) {F B L W0 M0 : S32} {v0 : S64} {np nt nr w n0 c lw r : Nat} (hN : NW B L W0 M0 np nt nr w) (hr : r < nr) (hl : lw ≤ 40) (Y : S32) (p0 k0 : Nat) : ∀ m s T vL vN q M v bits nc nf, s + m = 10 → m < nc → m < nf → TI M0 v0 T M v → KI F M nt n0 c lw →
    ∃ b T' vL' vN' q' M' v', f_X9_skillsBy_L16 fu Y B L p0 k0 nc F T vL vN q (nI r) (nI lw) bits (nI s) = some (b, F, T', vL', vN', q') ∧ f_X12_skills_L95 fu nf M v (nI r) bits (nI s) = some (b, M', v') ∧ TI M0 v0 T' M' v' := by
  obtain ⟨⟨hnp, hnt, hnr⟩, -, -, ⟨b10, -⟩, -⟩ := id hN.1
  intro m
  induction m with
  | zero =>
    intro s T vL vN q M v bits nc nf hs hc hn hT hK
    obtain ⟨nc, rfl⟩ := pos_ex hc
    obtain ⟨nf, rfl⟩ := pos_ex hn
    refine ⟨bits, T, vL, vN, q, pT M, v, ?_, ?_, ⟨hT.1.trans (pT_pf M), hT.2⟩⟩
    · show f_X9_skillsBy_J16 _ _ _ _ _ _ _ _ _ _ _ _ _ _ _ _ = _
      unfold f_X9_skillsBy_J16
      rw [if_pos (show (9 : Int32) < nI s from nI_lt (a := 9) (by omega) (by omega))]
    · show f_X12_skills_J95 _ _ _ _ _ _ _ = _
      unfold f_X12_skills_J95
      rw [if_pos (show (10 : Int32) ≤ nI s from nI_le (a := 10) (by omega) (by omega)), pT_f, tx_b1_q]
  | succ m ih =>
    intro s T vL vN q M v bits nc nf hs hc hn hT hK
    obtain ⟨nc, rfl⟩ := pos_ex hc
    obtain ⟨nf, rfl⟩ := pos_ex hn
    obtain ⟨Wb, M1, a1, a2, a3, a4, a5, a6⟩ := first_q fu hf (hN.pf hT.1) hT.2.2.2 v (s := s) hr
    have hK2 := hK.e (a5 74 (by decide) (by omega)) (a5 75 (by decide) (by omega)) (a6 71 (by omega)) (a6 72 (by omega))
    obtain ⟨f, W', vL', vN', M', v', g1, g2, g3, g4, g5, g6, g7⟩ := fit_loop fu hf hl Y p0 k0 (f_X9_skillsBy_L16 fu Y B L p0 k0 nc) (nI r) bits (nI s) 40 1 0 (up2 Wb 14 r (nI s)) vL vN _ v fu fu (by omega) (by omega) (by omega) (by omega) (by omega) a4 hK2
    have hT2 : TI M0 v0 W' M' v' := ⟨(hT.1.trans a3).trans g4.pf, g5.trans hT.2.1, g6.trans hT.2.2.1, g7⟩
    have R : f_X12_fits fu M v (nI r) (nI s) = some (f, M', v') := by
      unfold f_X12_fits
      rw [a2, tx_b1_q, pT_f, tx_b1_q, tx_let_q, tx_let_q]
      exact g2
    have g1' : f_X9_skillsBy_L56 fu Y B L p0 k0 (f_X9_skillsBy_L16 fu Y B L p0 k0 nc) fu F (up2 Wb 14 r (nI s)) vL vN (nI r) (nI lw) bits (nI s) 1 1 = _ := g1
    have C : f_X9_skillsBy_L16 fu Y B L p0 k0 (nc + 1) F T vL vN q (nI r) (nI lw) bits (nI s) = f_X9_skillsBy_J95 fu Y B L p0 k0 (f_X9_skillsBy_L16 fu Y B L p0 k0 nc) F W' vL' vN' (nI r) (nI lw) bits (nI s) f := by
      show f_X9_skillsBy_J16 _ _ _ _ _ _ _ _ _ _ _ _ _ _ _ _ = _
      unfold f_X9_skillsBy_J16
      rw [if_neg (show ¬ (9 : Int32) < nI s from nI_nlt (a := 9) (by omega) (by omega)), c_isR fu b10 hnr hr, tx_b1_q, if_neg one_ne, a1, tx_b1_q, tx_ck_q (j := r) (by omega) (by omega), tx_let_q, nI_clamp (n := r) (by omega), g1']
    have R2 : f_X12_skills_L95 fu (nf + 1) M v (nI r) bits (nI s) = if f = 0 then f_X12_skills_J118 fu (f_X12_skills_L95 fu nf) M' v' (nI r) (nI s) bits 0 else f_X12_skills_J118 fu (f_X12_skills_L95 fu nf) M' v' (nI r) (nI s) bits ((1 : Int32) <<< (nI s &&& 31)) := by
      show f_X12_skills_J95 _ _ _ _ _ _ _ = _
      unfold f_X12_skills_J95
      rw [if_neg (show ¬ (10 : Int32) ≤ nI s from nI_ge (b := 10) (by omega) (by omega)), R, tx_b3_q]
    rw [C, R2]
    unfold f_X9_skillsBy_J95 f_X9_skillsBy_J110 f_X12_skills_J118
    have hK3 := hK2.fr g4
    rcases g3 with rfl | rfl
    · rw [if_pos rfl, if_pos rfl, tx_let_q, tx_let_q, tx_let_q, tx_let_q, nI_1]
      exact ih (s + 1) W' vL' vN' k0 M' v' _ nc nf (by omega) (by omega) (by omega) hT2 hK3
    · rw [if_neg one_ne, if_neg one_ne, tx_let_q, tx_let_q, tx_let_q, tx_let_q, nI_1]
      exact ih (s + 1) W' vL' vN' k0 M' v' _ nc nf (by omega) (by omega) (by omega) hT2 hK3
theorem fdOK.f5 {F F' M : S32} {nt : Nat} (h : fdOK F M nt) (hF : ∀ r, r ≠ 5 → F' r = F r) : fdOK F' M nt := by
  unfold fdOK
  rw [hF 0 (by decide), hF 1 (by decide), hF 2 (by decide), hF 3 (by decide), hF 4 (by decide)]
  exact h
theorem RR_f5 {k q : Nat → Nat} {U : Nat → S32} {V : Nat → S64} (hR : RR k q U V) {F' : S32} (hF : ∀ r, r ≠ 5 → F' r = U 4 r) : RR k q (va_up U 4 F') V := by
  obtain ⟨np, nt, nr, h1, h2, h3, h4, h5⟩ := hR
  exact ⟨np, nt, nr, h1, h2, h3, h4.f5 hF, h5⟩
theorem sp36 (fu : Nat) (hf : 1000 ≤ fu) : SP36 RR fu := by
  intro k q U V y1 hR
  obtain ⟨np, nt, nr, h1, h2, h3, h4, h5⟩ := id hR
  obtain ⟨hb, hbi, hlw⟩ := id h1
  obtain ⟨hw, hwi, hwb, hst, hnb, hbit⟩ := id h2
  obtain ⟨w, hw99, hk⟩ := id hwi.2.2.2.2
  have hN : NW (U 2) (U 17) (U 1) (up2 (U 19) 0 2 0) np nt nr w := ⟨RX_PL hb hbi hw hwi hwb hst, (hlw.pf (PF.of_pj _)).pf (PF.t _), hk, hw99, hbit.1⟩
  have hfd : fdOK (U 4) (up2 (U 19) 0 2 0) nt := by
    refine h4.c ?_ ?_ ?_
    · rw [up_t _ (by decide)]; exact (pj_in (by decide)).symm
    · rw [up_t _ (by decide)]; exact (pj_in (by decide)).symm
    · rw [up2_n _ _ _ (by decide)]
      funext i
      exact (pj_in (rl74 i)).symm
  obtain ⟨n0, c, hE⟩ := FE.of hfd
  unfold f_X11_skills f_X12_skills
  rw [tx_let_q]
  rcases t_reader fu (U 2) (up2 (U 19) 0 2 0) (V 19) hN.1.2.2.2.1.1 hN.1.2.2.2.1.2 hN.1.1.2.2 y1 with ⟨r, hr, rfl, e1, e2⟩ | ⟨e1, e2⟩
  · rw [e1, e2, tx_b1_q, tx_b1_q, if_neg one_ne, if_neg one_ne]
    obtain ⟨F', M', s1, s2, s3, s4, s5⟩ := settle_q fu hf (V 19) (nI r) hE
    have hE' : FE F' M' nt n0 c := hE.c s3 (s4 74 (by decide)) (by rw [s4 0 (by decide)]) (by rw [s4 0 (by decide)])
    obtain ⟨lw, l1, l2, l3, l4⟩ := lk_q fu hE' 24 0 fu 0 (by omega) (by omega) (by omega)
    have l3' : f_X2_lastKnownWeek fu F' = some (nI lw) := l3
    have hP : PF (up2 (U 19) 0 2 0) M' := by
      intro q i hq
      rw [s4 q (fun z => by subst z; exact absurd hq (by simp [rl]))]
    obtain ⟨b, T', vL', vN', q', Mz, vz, g1, g2, g3⟩ := sk_loop fu hf (v0 := V 19) hN hr l2 (U 6) (q 1) (k 0) 10 0 (U 7) (V 17) (V 8) (q 1) M' (V 19) 0 fu fu (by omega) (by omega) (by omega) ⟨hP, rfl, rfl, hbit.2⟩ ⟨hE', s5, l2, fun j hj => l4 j (by omega) hj⟩
    rw [nI_0] at g1 g2
    unfold f_X9_skillsBy
    rw [s1, tx_b1_q, l3', tx_b1_q, g1, tx_b6_q, s2, g2]
    refine ⟨_, _, _, _, _, _, _, _, rfl, rfl, ?_⟩
    exact RR_T (U := va_up U 4 F') (RR_f5 hR s3) ((PF.t _).trans g3.1) g3.2.2.2 g3.2.1 g3.2.2.1 _ _ _
  · rw [e1, e2]
    refine ⟨_, _, _, _, _, _, _, _, rfl, rfl, ?_⟩
    exact RR_T (U := va_up U 4 (U 4)) (RR_f5 hR (fun _ _ => rfl)) (PF.t _) hbit.2 rfl rfl _ _ _
