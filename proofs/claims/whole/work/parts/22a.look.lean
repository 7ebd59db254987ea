/-! the plain facts of the relation, for the reference's rows behind 'thrown = 0' -/
def PL (B W M : S32) (np nt nr : Nat) : Prop :=
  (np ≤ 6 ∧ nt ≤ 12 ∧ nr ≤ 4) ∧ (B 0 1 = nI np ∧ M 0 12 = nI np) ∧ (B 0 5 = nI nt ∧ M 0 13 = nI nt) ∧ (B 0 10 = nI nr ∧ M 0 14 = nI nr) ∧
  (∀ p, p < np → B 3 p = M 23 p ∧ B 4 p = M 24 p ∧ B 5 p = M 25 p) ∧ (∀ t, t < nt → B 7 t = M 26 t ∧ B 8 t = M 27 t ∧ B 9 t = M 28 t ∧ B 10 t = M 29 t) ∧ (∀ r, r < nr → B 12 r = M 30 r ∧ B 13 r = M 31 r ∧ B 14 r = M 32 r) ∧
  (B 0 14 = M 22 0 ∧ B 0 15 = M 22 1 ∧ B 0 16 = M 22 2) ∧
  (∀ p, p < np → W 5 p = M 53 p ∧ W 7 p = M 54 p ∧ W 8 p = M 55 p ∧ W 9 p = M 56 p ∧ W 10 p = M 57 p ∧ W 6 p = B 5 p) ∧ (∀ t, t < nt → W 11 t = M 50 t ∧ W 12 t = M 51 t ∧ W 13 t = M 52 t) ∧ (∀ r, r < nr → W 14 r = M 31 r ∧ W 15 r = M 32 r) ∧
  (W 0 2 = M 58 0 ∧ W 0 1 = M 59 0) ∧ bkIn B np nt nr ∧ wdIn W np nt nr
theorem RX_PL {np nt nr : Nat} {B W M : S32} (hb : bkOK B (pj M) np nt nr) (hbi : bkIn B np nt nr) (hw : wdOK W (pj M) 0 np nt) (hwi : wdIn W np nt nr) (hwb : wdBk W B np nr) (hst : ∀ t, t < nt → W 11 t = pj M 50 t) : PL B W (up2 M 0 2 0) np nt nr := by
  have h1 := hb.1
  refine ⟨hb.1, ⟨hb.2.1.1, ?_⟩, ⟨hb.2.2.1.1, ?_⟩, ⟨hb.2.2.2.1.1, ?_⟩, ?_, ?_, ?_, ?_, ?_, ?_, ?_, ?_, hbi, hwi⟩
  · rw [up_t _ (by decide)]; exact hb.2.1.2
  · rw [up_t _ (by decide)]; exact hb.2.2.1.2
  · rw [up_t _ (by decide)]; exact hb.2.2.2.1.2
  · intro p hp
    simp (disch := omega) only [up_r]
    exact bk_p hb hp
  · intro p hp
    simp (disch := omega) only [up_r]
    exact bk_t hb hp
  · intro p hp
    simp (disch := omega) only [up_r]
    exact bk_r hb hp
  · simp (disch := omega) only [up_r]
    exact hb.2.2.2.2.2.2.2
  · intro p hp
    simp (disch := omega) only [up_r]
    obtain ⟨a1, a2, a3, a4, a5⟩ := wd_p hw h1.1 hp
    exact ⟨a1, a2, a3, a4, a5, hwb.1 p hp⟩
  · intro t ht
    simp (disch := omega) only [up_r]
    obtain ⟨a1, a2⟩ := wd_t hw h1.2.1 ht
    refine ⟨?_, a1, a2⟩
    rw [hst t ht, pj_in (rl12 (by simp) (by omega))]
  · intro r hr
    simp (disch := omega) only [up_r]
    obtain ⟨a1, a2, a3⟩ := bk_r hb hr
    obtain ⟨c1, c2⟩ := hwb.2 r hr
    exact ⟨c1.trans a2, c2.trans a3⟩
  · simp (disch := omega) only [up_r]
    exact hw.2.2
theorem RR_PL {k q : Nat → Nat} {U : Nat → S32} {V : Nat → S64} (hR : RR k q U V) : ∃ np nt nr, PL (U 2) (U 1) (up2 (U 19) 0 2 0) np nt nr := by
  obtain ⟨np, nt, nr, ⟨hb, hbi, hlw⟩, ⟨hw, hwi, hwb, hst, hnb⟩, hrest⟩ := hR
  exact ⟨np, nt, nr, RX_PL hb hbi hw hwi hwb hst⟩
theorem sp27 (fu : Nat) (hf : 1000 ≤ fu) : SP27 RR fu := by
  intro k q U V y1 y2 hR
  obtain ⟨np, nt, nr, ⟨hnp, hnt, hnr⟩, ⟨b1, m1⟩, ⟨b5, m5⟩, ⟨b10, m10⟩, hbp, hbt, hbr, hb0, hwp, hwt, hwr, hw0, hbi, hwi⟩ := RR_PL hR
  unfold f_X11_whose f_X12_whose f_X12_isIn
  rw [tx_let_q]
  by_cases a1 : y1 < 1
  · rw [if_pos a1, if_pos a1]; exact ⟨_, _, rfl, rfl, RR_t hR⟩
  rw [if_neg a1, if_neg a1]
  by_cases a2 : 99 < y1
  · rw [if_pos a2, if_pos a2]; exact ⟨_, _, rfl, rfl, RR_t hR⟩
  rw [if_neg a2, if_neg a2, tx_b1_q, if_neg one_ne]
  by_cases a3 : y2 < 0
  · rw [if_pos a3, if_pos a3]; exact ⟨_, _, rfl, rfl, RR_t hR⟩
  rw [if_neg a3, if_neg a3]
  by_cases a4 : y2 ≤ 3
  · rw [if_pos a4, if_neg (Int32.not_lt.mpr a4), tx_b1_q, if_neg one_ne]
    have e1 : f_X10_holdersOf fu (U 1) (U 2) y1 y2 = _ := fl_holdersOf fu b5 hnt b1 hnp hwi y1 y2 nt 0 fu 0 (by omega) (by omega)
    have e2 : f_X12_whose_L31 fu (V 19) fu (up2 (U 19) 0 2 0) y1 y2 0 0 = _ := fl_whose fu m5 hnt y1 y2 nt 0 fu 0 (by omega) (by omega)
    rw [e1, e2, tx_b1_q]
    refine ⟨_, _, rfl, ?_, RR_t hR⟩
    rw [fd_congr (n := nt) (fun t ht a => ?_) nt 0 0 (by omega)]
    obtain ⟨c1, c2, -⟩ := hwt t ht
    obtain ⟨-, d2, -, d4⟩ := hbt t ht
    rw [← c1, ← c2, ← d2, ← d4]
  · rw [if_neg a4, if_pos (Int32.not_le.mp a4)]; exact ⟨_, _, rfl, rfl, RR_t hR⟩
theorem sp32 (fu : Nat) (hf : 1000 ≤ fu) : SP32 RR fu := by
  intro k q U V hR
  obtain ⟨np, nt, nr, ⟨hnp, hnt, hnr⟩, ⟨b1, m1⟩, ⟨b5, m5⟩, ⟨b10, m10⟩, hbp, hbt, hbr, hb0, hwp, hwt, hwr, hw0, hbi, hwi⟩ := RR_PL hR
  unfold f_X11_hidden f_X12_hidden
  rw [tx_let_q]
  have e1 : f_X10_hiddenBits fu (U 1) (U 2) = _ := fl_hiddenBits fu b5 hnt b1 hnp hwi nt 0 fu 0 (by omega) (by omega)
  have e2 : f_X12_hidden_L9 fu (V 19) fu (up2 (U 19) 0 2 0) 0 0 = _ := fl_hidden fu m5 hnt nt 0 fu 0 (by omega) (by omega)
  rw [e1, e2, tx_b1_q]
  refine ⟨_, _, rfl, ?_, RR_t hR⟩
  rw [fd_congr (n := nt) (fun t ht a => ?_) nt 0 0 (by omega)]
  obtain ⟨c1, c2, -⟩ := hwt t ht
  obtain ⟨d1, -, -, -⟩ := hbt t ht
  rw [← c1, ← c2, ← d1]
theorem sp31 (fu : Nat) (hf : 1000 ≤ fu) : SP31 RR fu := by
  intro k q U V y1 hR
  obtain ⟨np, nt, nr, ⟨hnp, hnt, hnr⟩, ⟨b1, m1⟩, ⟨b5, m5⟩, ⟨b10, m10⟩, hbp, hbt, hbr, hb0, hwp, hwt, hwr, hw0, hbi, hwi⟩ := RR_PL hR
  unfold f_X11_holds f_X12_holds
  rw [tx_let_q]
  rcases t_man fu (U 2) (up2 (U 19) 0 2 0) (V 19) b1 m1 hnp y1 with ⟨p, hp, rfl, e1, e2⟩ | ⟨e1, e2⟩
  · rw [e1, e2, tx_b1_q, tx_b1_q, if_neg one_ne, if_neg one_ne]
    have e3 : f_X10_heldBits fu (U 1) (U 2) (nI p) = _ := fl_heldBits fu b5 hnt (nI p) nt 0 fu 0 (by omega) (by omega)
    have e4 : f_X12_holds_L19 fu (V 19) fu (up2 (U 19) 0 2 0) (nI p) 0 0 = _ := fl_holds fu m5 hnt (nI p) nt 0 fu 0 (by omega) (by omega)
    rw [e3, e4, tx_b1_q]
    refine ⟨_, _, rfl, ?_, RR_t hR⟩
    rw [fd_congr (n := nt) (fun t ht a => ?_) nt 0 0 (by omega)]
    obtain ⟨c1, c2, -⟩ := hwt t ht
    rw [← c1, ← c2]
  · rw [e1, e2]
    exact ⟨_, _, rfl, rfl, RR_t hR⟩
