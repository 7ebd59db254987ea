/-! weeks go by -/
theorem FR.vis {M M' : S32} (h : FR 0 M M') {i : Nat} (hi : rl 0 i = true) : M' 0 i = M 0 i := by
  refine h 0 i (fun z => ?_)
  unfold sc at z
  have : i = 48 ∨ i = 60 := by omega
  rcases this with rfl | rfl
  · exact absurd hi (by decide)
  · exact absurd hi (by decide)
theorem WR_NOWs {B L W M W3 : S32} {np nt nr w : Nat} {dr : Int64} (h : WR B L W M 0 np nt nr 99 (fun p => p < np)) (hp : plF M) (h5 : ∀ p, p < np → B 5 p = M 25 p) (hr : ∀ r, r < nr → B 13 r = M 31 r ∧ B 14 r = M 32 r) (h58 : W 0 2 = M 58 0) (hw : w ≤ 9900) (hk : wkOK W np w) (hnb : nbOK W dr) (hbit : W3 0 15 = 0 ∨ W3 0 15 = 1) {M' : S32} (he : ∀ r, 50 ≤ r → r ≤ 59 → M' r = M r) : NOWs W B (pj M') W3 np nt nr dr := by
  obtain ⟨⟨-, ⟨⟨hnp, hnt, hnr⟩, -, -, -, hbt, hbi⟩, -, hfl⟩, ⟨hth, hpp, hw0⟩, ⟨i1, i2, i3, i4, i5⟩⟩ := h
  have e12 : ∀ r, r = 50 ∨ r = 51 ∨ r = 52 → ∀ t, t < nt → pj M' r (12 * 0 + t) = M r (12 * 0 + t) := fun r hr t ht => by
    rw [z120, pj_in (rl12 (by omega) (by omega)), he r (by omega) (by omega)]
  have e6 : ∀ r, r = 53 ∨ r = 54 ∨ r = 55 ∨ r = 56 ∨ r = 57 → ∀ p, p < np → pj M' r (6 * 0 + p) = M r (6 * 0 + p) := fun r hr p hp => by
    rw [z60, pj_in (rl6 (by omega) (by omega)), he r (by omega) (by omega)]
  refine ⟨⟨fun p hp => ?_, fun t ht => ?_, ?_⟩, ⟨i1, i2, i3, i4, w, hw, hk⟩, ⟨fun p hp' => ?_, fun r hr' => ?_⟩, fun t ht => ?_, hnb, i5, hbit⟩
  · rw [e6 53 (by omega) p hp, e6 54 (by omega) p hp, e6 55 (by omega) p hp, e6 56 (by omega) p hp, e6 57 (by omega) p hp]
    exact hpp p hp
  · rw [e12 51 (by omega) t ht, e12 52 (by omega) t ht]
    exact ⟨(hth t ht).2.1, (hth t ht).2.2 (by omega) (by omega)⟩
  · rw [pj_in (by decide), pj_in (by decide), he 58 (by omega) (by omega), he 59 (by omega) (by omega)]
    exact ⟨h58, hw0⟩
  · rw [(hfl.1 p hp').1, if_pos hp.2.1, h5 p hp']
  · obtain ⟨a, b⟩ := hfl.2 r hr'
    have n68 : ¬ nI r = M 0 68 := by rw [hp.2.2.2.2.2.2.2.1]; exact m1_ne (by omega)
    rw [a, if_pos hp.2.2.2.1, if_neg n68]
    refine ⟨(hr r hr').1.symm, ?_⟩
    rcases b with ⟨-, b⟩ | ⟨b, -⟩
    · rw [b, (hr r hr').2]
    · rw [hp.2.2.1] at b; exact absurd b (by decide)
  · have e := e12 50 (by omega) t ht
    rw [z120] at e
    rw [e]
    obtain ⟨a, ha, ea⟩ := (hbi.2.1 t ht).1
    rcases (hth t ht).1 with ⟨g, -⟩ | ⟨-, -, g⟩
    · rw [z120] at g
      exact g
    · exact absurd g (plF_bar hp (by omega) (show a < 2 ^ 31 by omega) (by rw [← (hbt t ht).1]; exact ea))
theorem sp12 (fu : Nat) (hf : 1000 ≤ fu) : SP12 RR fu := by
  intro k q U V y1 hR
  obtain ⟨np, nt, nr, h1, h2, h3, h4, h5, h6⟩ := id hR
  obtain ⟨hb, hbi, hlw⟩ := id h1
  obtain ⟨hw, hwi, hwb, hst, hnb, hbit⟩ := id h2
  obtain ⟨w, hw99, hk⟩ := id hwi.2.2.2.2
  have hN : NW (U 2) (U 17) (U 1) (up2 (U 19) 0 2 0) np nt nr w := ⟨RX_PL hb hbi hw hwi hwb hst, (hlw.pf (PF.of_pj _)).pf (PF.t _), hk, hw99, hbit.1⟩
  have hM1 : PF (U 19) (up2 (U 19) 0 2 0) := PF.t _
  have hM1r : ∀ r, r ≠ 0 → (up2 (U 19) 0 2 0) r = U 19 r := fun r h => up2_n _ _ _ h
  have bad : ∃ (r : Int32) (zu_W : S32) (zv_L : S64) (zv_N : S64) (zu_D : S32) (zu_M : S32) (zv_M : S64), (some ((-1 : Int32), U 1, V 17, V 11, U 5) : Option (Int32 × S32 × S64 × S64 × S32)) = some (r, zu_W, zv_L, zv_N, zu_D) ∧ (some ((-1 : Int32), up2 (U 19) 0 2 0, V 19) : Option (Int32 × S32 × S64)) = some (r, zu_M, zv_M) ∧ RR k q (va_up (va_up (va_up U 1 zu_W) 5 zu_D) 19 zu_M) (va_up (va_up (va_up V 17 zv_L) 11 zv_N) 19 zv_M) := ⟨_, _, _, _, _, _, _, rfl, rfl, RR_0 hR⟩
  unfold f_X11_weeks f_X12_weeks
  rw [tx_let_q]
  by_cases a1 : y1 < 0
  · rw [if_pos a1, isIn_f fu (Or.inl a1)]; exact bad
  rw [if_neg a1]
  by_cases a2 : 99 < y1
  · rw [if_pos a2, isIn_f fu (Or.inr a2)]; exact bad
  obtain ⟨n, hn, rfl⟩ := nI_of2 (M := 99) (n := 99) rfl a1 (Int32.not_lt.mp a2)
  have e59 : (up2 (U 19) 0 2 0) 59 ((0 : Int32).toNatClampNeg) = U 1 0 1 := hN.1.2.2.2.2.2.2.2.2.2.2.2.1.2.symm
  rw [if_neg a2, isIn_t fu a1 a2, tx_b1_q, if_neg one_ne, e59, hk.1, nI_add]
  by_cases a3 : nI (w + n) ≤ (9900 : Int32)
  rotate_left
  · rw [if_neg a3, if_neg a3]; exact bad
  have hwn : w + n ≤ 9900 := (nI_leI (b := 9900) (by omega) (by omega)).mp a3
  rw [if_pos a3, if_pos a3, pT_f, tx_b1_q, tx_let_q]
  revert hN hM1 hM1r bad e59
  generalize hgM : up2 (U 19) 0 2 0 = M1
  intro hN hM1 hM1r bad e59
  have hM2 : PF (U 19) (up2 (pT M1) 0 61 1) := (hM1.trans (pT_pf M1)).up _ (by decide)
  have hM2r : ∀ r, r ≠ 0 → (up2 (pT M1) 0 61 1) r = U 19 r := fun r h => by rw [up2_n _ _ _ h, pT_n _ h, hM1r r h]
  obtain ⟨hW, h58⟩ := NW_WR (hN.pf (pT_pf M1)) (pT_plF M1) 99
  have hW2 := hW.uf (i := 61) 1 (Or.inl rfl)
  have pv := pT_v M1
  obtain ⟨W', vL', vN', M', v', g1, g2, g3, g4, g5, g6, g7, g8⟩ := nows fu hf (x3 := 1) (n := n) (by omega) n 0 w (U 1) (V 17) (V 11) (up2 (pT M1) 0 61 1) (V 19) fu fu (by omega) hW2 ⟨up2_e _ _ _ _, Or.inr ⟨rfl, hnb⟩⟩ (by rw [up2_i _ _ _ (by decide)]; exact pv.2.2.2.2.1) hk (by rw [up2_n _ _ _ (by decide)]; exact h58) (by omega) (by omega) (by omega)
  have g1' : f_X10_goWeeks fu (U 2) (U 17) (U 1) (V 17) (V 11) (nI n) 1 = some (W', vL', vN') := g1
  rw [nI_0] at g4
  rw [g1', tx_b3_q, g4]
  unfold f_X12_weeks_J42 f_X12_weeks_J76
  rw [if_pos (nI_le (Nat.le_refl n) (by omega)), tx_let_q]
  -- the reference's rows behind it
  have hpl : plF (up2 M' 0 61 0) := by
    have e : ∀ i, 62 ≤ i → (up2 M' 0 61 0) 0 i = pT M1 0 i := fun i hi => by rw [up2_i _ _ _ (by omega), g8 0 i (by unfold sc; omega), up2_i _ _ _ (by omega)]
    refine ⟨up2_e _ _ _ _, ?_⟩
    rw [e 62 (by omega), e 63 (by omega), e 64 (by omega), e 65 (by omega), e 66 (by omega), e 67 (by omega), e 68 (by omega), e 69 (by omega)]
    exact pv.2
  have hW3 := g5.uf (i := 61) 0 (Or.inl rfl)
  have fr : ∀ r, r ≠ 0 → r < 50 ∨ 59 < r → M' r = U 19 r := fun r a b => by
    funext i
    rw [g8 r i (by unfold sc; omega), hM2r r a]
  have hb5 : ∀ p, p < np → U 2 5 p = (up2 M' 0 61 0) 25 p := fun p hp => by
    rw [up2_n _ _ _ (by decide), fr 25 (by decide) (by omega)]
    exact (bk_p hb hp).2.2
  have hbr : ∀ r, r < nr → U 2 13 r = (up2 M' 0 61 0) 31 r ∧ U 2 14 r = (up2 M' 0 61 0) 32 r := fun r hr => by
    rw [up2_n _ _ _ (by decide), up2_n _ _ _ (by decide), fr 31 (by decide) (by omega), fr 32 (by decide) (by omega)]
    exact (bk_r hb hr).2
  have h58' : W' 0 2 = (up2 M' 0 61 0) 58 0 := by
    rw [up2_n _ _ _ (by decide), g2, g8 58 0 (by unfold sc; omega), up2_n _ _ _ (by decide), h58]
  have hnb' : nbOK W' (v' 0 59) := by
    rcases g6.2 with z | ⟨-, z⟩
    · exact absurd z one_ne
    · exact z
  have fin : ∀ (D' : S32) (t1 : Int32), udOK D' W' (U 2) (pj (up2 (up2 M' 0 61 0) 0 75 t1)) np nt nr → RR k q (va_up (va_up (va_up U 1 W') 5 D') 19 (up2 (up2 M' 0 61 0) 0 75 t1)) (va_up (va_up (va_up V 17 vL') 11 vN') 19 v') := by
    intro D' t1 hud
    refine RR_D (k := k) (q := q) (U := U) (V := V) h1 h3 h4 h5 (fun r a b _ => pj_w ?_) (fun i hi => ?_) ?_ ?_ hud
    · rw [up2_n _ _ _ a, up2_n _ _ _ a, fr r a b]
    · by_cases e : rl 0 i = true
      · have hi61 : i ≠ 61 := by
          rintro rfl
          exact absurd e (by decide)
        rw [pj_in e, pj_in e, up2_i _ _ _ hi, up2_i _ _ _ hi61, g8.vis e]
        exact hM2 0 i e
      · unfold pj
        rw [if_neg e, if_neg e]
    · show v' 0 80 = V 19 0 80
      exact g7.2.1 80 (by decide)
    · show NOWs W' (U 2) (pj (up2 (up2 M' 0 61 0) 0 75 t1)) (U 7) np nt nr (v' 0 59)
      exact WR_NOWs hW3 hpl hb5 hbr h58' hwn g3 hnb' hbit.2 (fun r a b => up2_n _ _ _ (by omega))
  have a59 : ∀ t1 : Int32, (up2 (up2 M' 0 61 0) 0 75 t1) 59 ((0 : Int32).toNatClampNeg) = W' 0 1 := by
    intro t1
    rw [up2_n _ _ _ (by decide), up2_n _ _ _ (by decide)]
    exact g5.2.1.2.2.symm
  rcases Nat.eq_zero_or_pos n with hz | hz
  · subst hz
    rw [if_pos (by decide), if_pos (by decide), tx_let_q, a59]
    refine ⟨_, _, _, _, _, _, _, rfl, rfl, fin _ _ ?_⟩
    have eW : W' = U 1 := by
      obtain ⟨f, rfl⟩ := pos_ex (show 0 < fu by omega)
      have : f_X10_goWeeks_L2 (f + 1) (U 2) (U 17) (f + 1) (U 1) (V 17) (V 11) (nI 0) 1 (nI 0) = some (U 1, V 17, V 11) := by
        show f_X10_goWeeks_J2 _ _ _ _ _ _ _ _ _ _ = _
        unfold f_X10_goWeeks_J2
        rw [if_pos (by decide)]
      rw [this] at g1
      injection g1 with g1
      injection g1 with g1 _
      exact g1.symm
    rw [eW]
    refine h6.c ?_ (pj_w (by rw [up2_n _ _ _ (by decide), up2_n _ _ _ (by decide), fr 77 (by decide) (by omega)]))
    rw [pj_in (by decide), pj_in (by decide), up2_e, up2_i _ _ _ (by decide), g8.vis (by decide)]
    exact hM2 0 75 (by decide)
  · rw [if_neg (nI_nle hz (by omega)), if_neg (nI_nle hz (by omega)), tx_let_q, a59]
    unfold f_X1_clear
    rw [tx_let_q, tx_b1_q]
    refine ⟨_, _, _, _, _, _, _, rfl, rfl, fin _ _ ⟨0, by omega, up2_e _ _ _ _, ?_, trivial⟩⟩
    rw [pj_in (by decide), up2_e]
    rfl
