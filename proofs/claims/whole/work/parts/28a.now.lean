/-! how likely one is read, laws, weeks -/
theorem WR.uf {B L W M : S32} {b np nt nr x : Nat} {S : Nat → Prop} (h : WR B L W M b np nt nr x S) {i : Nat} (v : Int32) (hi : i = 61 ∨ i = 65) : WR B L W (up2 M 0 i v) b np nt nr x S := by
  obtain ⟨⟨k1, k2, k3, k4⟩, ⟨k5, k6, k7⟩, k8⟩ := id h
  refine h.mk2 (fun r h0 _ => up2_n _ _ _ h0) (up2_n _ _ _ (by decide)) (fun j hj => up2_i _ _ _ (by omega)) (flK.mk2 (M := M) k4 (fun r h0 _ => up2_n _ _ _ h0) (up2_i _ _ _ (by omega)) (up2_i _ _ _ (by omega)) (up2_i _ _ _ (by omega)) (up2_i _ _ _ (by omega)) (up2_i _ _ _ (by omega))) (fun u hu => ?_) (fun p hp => ?_) rfl k8
  · have e : bar (up2 M 0 i v) u ↔ bar M u := by
      unfold bar
      rw [up2_n _ _ _ (show (26 : Nat) ≠ 0 by decide), up2_i _ _ _ (show (66 : Nat) ≠ i by omega), up2_i _ _ _ (show (67 : Nat) ≠ i by omega)]
    rw [e, up2_n _ _ _ (show (50 : Nat) ≠ 0 by decide), up2_n _ _ _ (show (51 : Nat) ≠ 0 by decide), up2_n _ _ _ (show (52 : Nat) ≠ 0 by decide)]
    exact k5 u hu
  · rw [up2_n _ _ _ (show (53 : Nat) ≠ 0 by decide), up2_n _ _ _ (show (54 : Nat) ≠ 0 by decide), up2_n _ _ _ (show (55 : Nat) ≠ 0 by decide), up2_n _ _ _ (show (56 : Nat) ≠ 0 by decide), up2_n _ _ _ (show (57 : Nat) ≠ 0 by decide)]
    exact k6 p hp
theorem held_no {B W : S32} (fu : Nat) {x : Int32} (h : f_X0_isThought fu B x = some 0) : f_X10_isHeld fu W B x = some 0 := by
  unfold f_X10_isHeld
  rw [h, tx_b1_q, if_pos rfl]
theorem rdr {B W : S32} {np nt nr : Nat} (fu : Nat) (hB : B 0 5 = nI nt) (hn : nt ≤ 12) (hB1 : B 0 1 = nI np) (hp : np ≤ 6) (hi : wdIn W np nt nr) {t p : Nat} (ht : t < nt) (hs : W 11 t = 1) (hpp : p < np) (hh : W 12 t = nI p) : f_X10_readerOf fu W B (nI t) = some (W 10 p) := by
  unfold f_X10_readerOf
  rw [c_held fu hB hn hB1 hp hi ht, tx_b1_q, if_pos hs, if_neg one_ne, tx_ck_q (by omega) (by omega), nI_clamp (n := t) (by omega), hh, tx_ck_q (by omega) (by omega), nI_clamp (n := p) (by omega)]
theorem held_p {W : S32} {np nt nr : Nat} (hi : wdIn W np nt nr) {t : Nat} (ht : t < nt) (hs : W 11 t = 1) : ∃ p, p < np ∧ W 12 t = nI p := by
  rcases hi.2.1 t ht with ⟨-, h⟩ | ⟨h | h, -⟩
  · exact h
  · rw [hs] at h; exact absurd h (by decide)
  · rw [hs] at h; exact absurd h (by decide)
theorem sp14 (fu : Nat) (hf : 1000 ≤ fu) : SP14 RR fu := by
  intro k q U V y1 hR
  obtain ⟨np, nt, nr, w, hN⟩ := RR_NW hR
  have hM1 : PF (U 19) (up2 (U 19) 0 2 0) := PF.t _
  unfold f_X11_likely f_X12_likely
  rw [tx_let_q]
  revert hN hM1
  generalize up2 (U 19) 0 2 0 = M1
  intro hN hM1
  have hM2 := hM1.trans (pT_pf M1)
  obtain ⟨hW, -⟩ := NW_WR (hN.pf (pT_pf M1)) (pT_plF M1) 99
  obtain ⟨⟨hnp, hnt, hnr⟩, ⟨b1, m1⟩, ⟨b5, m5⟩, ⟨b10, m10⟩, hbp, hbt, hbr, hb0, hwp, hwt, hwr, hw0, hbi, hwi⟩ := hN.1
  obtain ⟨-, ⟨hth, hpp, -⟩, -⟩ := id hW
  have bad : ∀ z : Int32, ∃ (r : Int32) (zv_L : S64) (zv_N : S64) (zu_M : S32) (zv_M : S64), (some (z, V 17, V 11) : Option (Int32 × S64 × S64)) = some (r, zv_L, zv_N) ∧ (some (z, M1, V 19) : Option (Int32 × S32 × S64)) = some (r, zu_M, zv_M) ∧ RR k q (va_up U 19 zu_M) (va_up (va_up (va_up V 17 zv_L) 11 zv_N) 19 zv_M) := fun z => ⟨_, _, _, _, _, rfl, rfl, (RR_L hR hM1 rfl rfl _ _).1⟩
  have bad2 : ∃ (r : Int32) (zv_L : S64) (zv_N : S64) (zu_M : S32) (zv_M : S64), (some (0, V 17, V 11) : Option (Int32 × S64 × S64)) = some (r, zv_L, zv_N) ∧ (some (0, pT M1, V 19) : Option (Int32 × S32 × S64)) = some (r, zu_M, zv_M) ∧ RR k q (va_up U 19 zu_M) (va_up (va_up (va_up V 17 zv_L) 11 zv_N) 19 zv_M) := ⟨_, _, _, _, _, rfl, rfl, (RR_L hR hM2 rfl rfl _ _).1⟩
  rcases t_thought fu (U 2) M1 (V 19) b5 m5 hnt y1 with ⟨t, ht, rfl, e1, e2⟩ | ⟨e1, e2⟩
  rotate_left
  · rw [e1, e2]; exact bad _
  have ck := fun k : Option (Int32 × S32 × S64) => tx_ck_q (j := t) (n := 24) (by omega) (by omega) k
  rw [e1, e2, tx_b1_q, tx_b1_q, if_neg one_ne, if_neg one_ne, c_held fu b5 hnt b1 hnp hwi ht, tx_b1_q, ck, nI_clamp (n := t) (by omega), ← (hwt t ht).1]
  by_cases hs : U 1 11 t = 1
  rotate_left
  · rw [if_neg hs, if_neg hs, if_pos rfl]; exact bad _
  obtain ⟨p, hp, hh⟩ := held_p hwi ht hs
  have c1 := fun k : Option (Int32 × S32 × S64) => tx_ck_q (j := p) (n := 12) (by omega) (by omega) k
  have m51 : pT M1 51 t = nI p := by rw [pT_n _ (by decide), ← (hwt t ht).2.1, hh]
  have m57 : pT M1 57 p = U 1 10 p := by rw [pT_n _ (by decide), ← (hwp p hp).2.2.2.2.1]
  rw [if_pos hs, if_pos hs, if_neg one_ne, rdr fu b5 hnt b1 hnp hwi ht hs hp hh, tx_b1_q, pT_f, tx_b1_q, ck, m51, c1, tx_let_q, nI_clamp (n := p) (by omega), m57]
  unfold f_X12_likely_J57
  rcases (hwi.1 p hp).2.2 with ⟨-, er⟩ | ⟨r, hr, er⟩
  · rw [er, if_pos (by decide)]
    have e3 : f_X10_knowsTongue fu (U 1) (U 2) (-1) (nI t) = some 0 := by
      unfold f_X10_knowsTongue
      rcases s_cReader fu (U 2) b10 hnr (-1) with ⟨⟨z, hz, ez⟩, -⟩ | ⟨-, e⟩
      · exact absurd ez.symm (m1_ne (by omega))
      · rw [e, tx_b1_q, if_pos rfl]
    rw [e3, tx_b1_q, if_pos rfl]
    exact bad2
  · obtain ⟨kk, k1, k2, k3⟩ := kn fu hW (V 19) ht hr
    rw [er, if_neg (nI_pos (by omega)), k1, k2, tx_b1_q, tx_b1_q]
    rcases k3 with rfl | rfl
    · rw [if_pos rfl, if_pos rfl]; exact bad2
    · obtain ⟨e, vL', vN', z, v', g1, g2, g3⟩ := rdOf fu hf hW (V 17) (V 11) (V 19) ht hp hp hr hh
      have g2' : f_X12_readOf fu (pT M1) (V 19) 0 (nI t) (nI p) (nI r) = some (e, up2 (pT M1) 0 48 z, v') := g2
      rw [if_neg one_ne, if_neg one_ne, g1, ck, g2', tx_b3_q, tx_b3_q]
      refine ⟨_, _, _, _, _, rfl, rfl, (RR_L hR (hM2.up z (by decide)) ?_ ?_ _ _).1⟩
      · rw [g3 0 (by decide) (by decide)]
      · rw [g3 0 (by decide) (by decide)]
theorem w_no (fu : Nat) {L M : S32} {j : Nat} (hj : j < 3) (h : L 3 j = -1 ∧ M 33 j = 0) (vN vL : S64) : f_X5_work_oNr0 fu L vN vL (nI j) = some (-9223372036854775808, vL) := by
  unfold f_X5_work_oNr0
  rw [(lw_no fu vL hj h).1, tx_b1_q, if_pos rfl]
theorem law_end (fu : Nat) (hf : 1000 ≤ fu) {L M : S32} (h : lwOK L M) {j : Nat} (hj : j < 3) (m33 : ¬ M 33 j = 0) (vL vN v : S64) (hN : ∀ a, a < 7 → vN 0 a = v 47 a ∧ inG (vN 0 a)) :
    ∃ r vL' x v', f_X5_work_oNr0 fu L vN vL (nI j) = some (r, vL') ∧ (tx_b3 (f_X12_lawOf fu M v (nI j)) fun (r_32 : Int64) (u_T_33 : S32) (v_T_34 : S64) => if (u_T_33 0 48) = (0 : Int32) then (some (r_32, u_T_33, v_T_34)) else (some ((-9223372036854775808 : Int64), u_T_33, v_T_34))) = some (r, up2 M 0 48 x, v') ∧ (∀ r, r ≠ 48 → v' r = v r) := by
  obtain ⟨n, hn, -, -, hk, hl⟩ := h
  rcases hl j hj with ⟨-, e⟩ | ⟨-, a, b, hab, hb, l3, l4, m34, m35, hkn⟩
  · exact absurd e m33
  · obtain ⟨r, vL', z, M', v', g1, g2, g3, g4⟩ := lw_of fu hf hj hn hk hab hb l3 l4 m34 m35 hkn vL vN v hN
    rcases g4 with ⟨e1, e2, e3⟩ | ⟨e1, e3⟩
    · exact ⟨r, vL', 0, v', g1, by rw [g2, tx_b3_q, e3, up2_e, if_pos rfl, e1], g3⟩
    · exact ⟨r, vL', 1, v', g1, by rw [g2, tx_b3_q, e3, up2_e, if_neg one_ne, e1], g3⟩
theorem bh_q {B W M : S32} {v : S64} {nt : Nat} (fu : Nat) (b5 : B 0 5 = nI nt) (m5 : M 0 13 = nI nt) (hn : nt ≤ 12) (h : ∀ t, t < nt → W 11 t = M 50 t ∧ W 12 t = M 51 t ∧ B 8 t = M 27 t) (x : Int32) : ∀ m t n n' a, t + m = nt → m < n → m < n' → ∃ r, f_X10_bestHeld_L4 fu W B n x a (nI t) = some r ∧ f_X12_bestHeld_L4 fu M v n' x a (nI t) = some r := by
  intro m
  induction m with
  | zero =>
    intro t n n' a ht h1 h2
    obtain ⟨n, rfl⟩ := pos_ex h1
    obtain ⟨n', rfl⟩ := pos_ex h2
    refine ⟨a, ?_, ?_⟩
    · show f_X10_bestHeld_J4 _ _ _ _ _ _ _ = _
      unfold f_X10_bestHeld_J4
      rw [b5, if_pos (nI_le (by omega) (by omega))]
    · show f_X12_bestHeld_J4 _ _ _ _ _ _ _ = _
      unfold f_X12_bestHeld_J4
      rw [m5, if_pos (nI_le (by omega) (by omega))]
  | succ m ih =>
    intro t n n' a ht h1 h2
    obtain ⟨n, rfl⟩ := pos_ex h1
    obtain ⟨n', rfl⟩ := pos_ex h2
    have ih' := fun a => ih (t + 1) n n' a (by omega) (by omega) (by omega)
    obtain ⟨c1, c2, c3⟩ := h t (by omega)
    show ∃ r, f_X10_bestHeld_J4 fu W B (f_X10_bestHeld_L4 fu W B n) x a (nI t) = some r ∧ f_X12_bestHeld_J4 fu M v (f_X12_bestHeld_L4 fu M v n') x a (nI t) = some r
    unfold f_X10_bestHeld_J4 f_X12_bestHeld_J4 f_X10_bestHeld_J47 f_X12_bestHeld_J51 f_X12_bestHeld_J52
    have ck := fun k : Option Int32 => tx_ck_q (j := t) (n := 24) (by omega) (by omega) k
    have dk := fun k : Option Int32 => tx_ck_q (j := t) (n := 12) (by omega) (by omega) k
    rw [b5, m5, if_neg (ge_lit (t := t) (by omega) (by omega)), if_neg (ge12 (t := t) (by omega)), if_neg (ge_lit (t := t) (by omega) (by omega)), c_heldAt fu b5 hn (by omega) x, tx_b1_q, ck, ck, ck, ck, dk, nI_clamp (n := t) (by omega), ← c1, ← c2, ← c3]
    by_cases hs : W 11 t = 1
    · rw [if_pos hs]
      by_cases hh : W 12 t = x
      · rw [if_pos hh, if_pos (show W 11 t = 1 ∧ W 12 t = x from ⟨hs, hh⟩), if_neg one_ne]
        by_cases hc : B 8 t ≤ a
        · rw [if_pos hc, if_neg (Int32.not_lt.mpr hc), tx_let_q, tx_let_q, nI_1]
          exact ih' _
        · rw [if_neg hc, if_pos (Int32.not_le.mp hc), tx_let_q, tx_let_q, nI_1]
          exact ih' _
      · rw [if_neg hh, if_neg (show ¬ (W 11 t = 1 ∧ W 12 t = x) from fun z => hh z.2), if_pos rfl, tx_let_q, tx_let_q, nI_1]
        exact ih' _
    · rw [if_neg hs, if_neg (show ¬ (W 11 t = 1 ∧ W 12 t = x) from fun z => hs z.1), if_pos rfl, tx_let_q, tx_let_q, nI_1]
      exact ih' _
theorem J63_t (fu : Nat) (M : S32) (v : S64) {w1 : Int32} (hw : ¬ w1 = 1) {t p : Nat} (ht : t < 24) (m51 : pT M 51 t = nI p) : f_X12_law_J63 fu M v w1 (nI t) = f_X12_law_J104 fu (pT M) v w1 (nI p) 0 (pT M 27 t) := by
  have ck := fun k : Option (Int64 × S32 × S64) => tx_ck_q (j := t) (n := 24) ht (by omega) k
  unfold f_X12_law_J63
  rw [pT_f, tx_b1_q, if_neg hw, ck, nI_clamp (n := t) (by omega), m51]
  unfold f_X12_law_J82
  rw [if_neg hw, ck, nI_clamp (n := t) (by omega)]
theorem J63_p (fu : Nat) (M : S32) (v : S64) {x bh : Int32} (h : f_X12_bestHeld fu (pT M) v x = some bh) : f_X12_law_J63 fu M v 1 x = f_X12_law_J104 fu (pT M) v 1 x 0 bh := by
  unfold f_X12_law_J63
  rw [pT_f, tx_b1_q, if_pos rfl]
  unfold f_X12_law_J82
  rw [if_pos rfl, h, tx_b1_q]
theorem J104_s (fu : Nat) (M : S32) (v : S64) {w1 sk : Int32} (hw : ¬ w1 = 2) {p : Nat} (hp : p < 12) (h : f_X12_skillIn fu M v (M 57 p) = some sk) (wo : Int32) : f_X12_law_J104 fu M v w1 (nI p) 0 wo = f_X12_law_J123 fu M v w1 (nI p) 0 wo sk := by
  unfold f_X12_law_J104
  rw [if_neg hw, tx_ck_q hp (by omega), nI_clamp (n := p) (by omega), h, tx_b1_q]
theorem J104_2 (fu : Nat) (M : S32) (v : S64) (x wo : Int32) : f_X12_law_J104 fu M v 2 x 0 wo = f_X12_law_J123 fu M v 2 x 0 wo 0 := by
  unfold f_X12_law_J104
  rw [if_pos rfl]
theorem sp7 (fu : Nat) (hf : 1000 ≤ fu) : SP7 RR fu := by
  intro k q U V y1 y2 hR
  obtain ⟨np, nt, nr, w, hN⟩ := RR_NW hR
  have hM1 : PF (U 19) (up2 (U 19) 0 2 0) := PF.t _
  unfold f_X11_law f_X12_law
  rw [tx_let_q]
  revert hN hM1
  generalize up2 (U 19) 0 2 0 = M1
  intro hN hM1
  have hM2 := hM1.trans (pT_pf M1)
  obtain ⟨hW, -⟩ := NW_WR (hN.pf (pT_pf M1)) (pT_plF M1) 99
  obtain ⟨⟨hnp, hnt, hnr⟩, ⟨b1, m1⟩, ⟨b5, m5⟩, ⟨b10, m10⟩, hbp, hbt, hbr, hb0, hwp, hwt, hwr, hw0, hbi, hwi⟩ := hN.1
  obtain ⟨⟨-, -, hlw, hfl⟩, ⟨hth, hpp, -⟩, -⟩ := id hW
  have bad : ∀ a c : S64, ∃ (r : Int64) (zv_N : S64) (zv_L : S64) (zu_M : S32) (zv_M : S64), (some ((-9223372036854775808 : Int64), a, c) : Option (Int64 × S64 × S64)) = some (r, zv_N, zv_L) ∧ (some ((-9223372036854775808 : Int64), M1, V 19) : Option (Int64 × S32 × S64)) = some (r, zu_M, zv_M) ∧ RR k q (va_up U 19 zu_M) (va_up (va_up (va_up V 11 zv_N) 17 zv_L) 19 zv_M) := fun a c => ⟨_, _, _, _, _, rfl, rfl, (RR_L hR hM1 rfl rfl _ _).2⟩
  have good : ∀ (r : Int64) (a c v' : S64) (x : Int32), (∀ r, r ≠ 47 → r ≠ 48 → v' r = V 19 r) → ∃ (r' : Int64) (zv_N : S64) (zv_L : S64) (zu_M : S32) (zv_M : S64), (some (r, a, c) : Option (Int64 × S64 × S64)) = some (r', zv_N, zv_L) ∧ (some (r, up2 (pT M1) 0 48 x, v') : Option (Int64 × S32 × S64)) = some (r', zu_M, zv_M) ∧ RR k q (va_up U 19 zu_M) (va_up (va_up (va_up V 11 zv_N) 17 zv_L) 19 zv_M) := fun r a c v' x hv => ⟨_, _, _, _, _, rfl, rfl, (RR_L hR (hM2.up x (by decide)) (by rw [hv 0 (by decide) (by decide)]) (by rw [hv 0 (by decide) (by decide)]) _ _).2⟩
  -- the names of a door
  have nms : ∀ p, p < np → ∃ sk, f_X12_skillIn fu (pT M1) (V 19) (pT M1 57 p) = some sk ∧ ∀ wo, ∃ vN' v', f_X10_nameDoor fu (U 1) (U 2) (V 11) (nI p) (U 1 10 p) wo = some vN' ∧ f_X12_layNames fu (pT M1) (V 19) 0 wo sk (nI p) = some v' ∧ (∀ r, r ≠ 47 → v' r = V 19 r) ∧ ∀ a, a < 7 → vN' 0 a = v' 47 a ∧ inG (vN' 0 a) := by
    intro p hp
    have m57 : pT M1 57 p = U 1 10 p := by rw [pT_n _ (by decide), ← (hwp p hp).2.2.2.2.1]
    rcases (hwi.1 p hp).2.2 with ⟨-, er⟩ | ⟨r, hr, er⟩
    · refine ⟨0, by rw [m57, er]; exact m_skill0 fu _ _, fun wo => ?_⟩
      rw [er]
      exact nm fu hf hW (V 11) (V 19) hp hp (-1) 0 wo (Or.inr ⟨rfl, rfl⟩)
    · refine ⟨U 1 14 r, by rw [m57, er]; exact m_skill fu _ hnr hfl hr, fun wo => ?_⟩
      rw [er]
      exact nm fu hf hW (V 11) (V 19) hp hp (nI r) (U 1 14 r) wo (Or.inl ⟨r, hr, rfl, rfl⟩)
  have p33 : ∀ j, pT M1 33 j = M1 33 j := fun j => by rw [pT_n _ (by decide)]
  have told : ∀ j, j < 3 → M1 33 j = 0 → ∀ vN vL, f_X5_work_oNr0 fu (U 17) vN vL (nI j) = some (-9223372036854775808, vL) := by
    intro j hj h0 vN vL
    obtain ⟨n, -, -, -, -, hl⟩ := hN.2.1
    rcases hl j hj with h | ⟨h, -⟩
    · exact w_no fu hj h vN vL
    · rw [h] at h0; exact absurd h0 one_ne
  by_cases x0 : y1 = 0
  · subst x0
    have ck6 : ∀ k : Option (Int64 × S32 × S64), tx_ck (0 : Int32) 6 k = k := fun k => rfl
    rw [if_pos rfl, isIn_t fu (by decide) (by decide), tx_b1_q, if_neg one_ne, ck6, if_neg (show ¬ (0 : Int32) = 1 by decide)]
    unfold f_X10_readLawNow f_X12_law_J36
    rw [if_neg (show ¬ (0 : Int32) = 1 by decide)]
    rcases t_thought fu (U 2) M1 (V 19) b5 m5 hnt y2 with ⟨t, ht, rfl, e1, e2⟩ | ⟨e1, e2⟩
    rotate_left
    · rw [held_no fu e1, e2, tx_b1_q, tx_b1_q, if_pos rfl, if_pos rfl, tx_b3_q]
      by_cases h0 : M1 33 ((0 : Int32).toNatClampNeg) = 0
      · rw [if_pos h0]; exact bad _ _
      · rw [if_neg h0]; exact bad _ _
    have ck := fun k : Option (Int64 × S32 × S64) => tx_ck_q (j := t) (n := 24) (by omega) (by omega) k
    have dk := fun k : Option (Int64 × S64 × S64) => tx_ck_q (j := t) (n := 12) (by omega) (by omega) k
    rw [c_held fu b5 hnt b1 hnp hwi ht, e2, tx_b1_q, tx_b1_q, if_neg one_ne, ck, nI_clamp (n := t) (by omega), ← (hwt t ht).1]
    by_cases hs : U 1 11 t = 1
    rotate_left
    · rw [if_neg hs, if_neg hs, if_pos rfl, tx_b3_q]
      by_cases h0 : M1 33 ((0 : Int32).toNatClampNeg) = 0
      · rw [if_pos h0]; exact bad _ _
      · rw [if_neg h0]; exact bad _ _
    obtain ⟨p, hp, hh⟩ := held_p hwi ht hs
    obtain ⟨sk, n0, n1⟩ := nms p hp
    obtain ⟨vN', v', n2, n3, n4, n5⟩ := n1 (U 2 8 t)
    have m51 : pT M1 51 t = nI p := by rw [pT_n _ (by decide), ← (hwt t ht).2.1, hh]
    have m27 : pT M1 27 t = U 2 8 t := by rw [pT_n _ (by decide), ← (hbt t ht).2.1]
    rw [if_pos hs, if_neg one_ne, if_pos hs, dk, rdr fu b5 hnt b1 hnp hwi ht hs hp hh, tx_b1_q, dk, hh, n2, tx_b1_q, J63_t fu M1 (V 19) (by decide) (by omega) m51, J104_s fu _ _ (by decide) (by omega) n0, m27]
    unfold f_X12_law_J123
    rw [n3, tx_b1_q]
    by_cases h0 : M1 33 ((0 : Int32).toNatClampNeg) = 0
    · have e := told 0 (by omega) h0 vN' (V 17)
      rw [nI_0] at e
      rw [if_pos h0, e, tx_b2_q, tx_b3_q]
      exact bad _ _
    · obtain ⟨r, vL', x, v'', g1, g2, g3⟩ := law_end fu hf hlw (j := 0) (by omega) (by rw [p33]; exact h0) (V 17) vN' v' n5
      rw [nI_0] at g1 g2
      rw [if_neg h0, g1, g2, tx_b2_q, tx_b3_q]
      exact good _ _ _ _ _ (fun r a b => (g3 r b).trans (n4 r a))
  rw [if_neg x0]
  by_cases x1 : y1 = 1
  · subst x1
    have ck6 : ∀ k : Option (Int64 × S32 × S64), tx_ck (1 : Int32) 6 k = k := fun k => rfl
    rw [if_pos rfl, isIn_t fu (by decide) (by decide), tx_b1_q, if_neg one_ne, ck6, if_pos rfl]
    unfold f_X10_dueLawNow f_X12_law_J36
    rw [if_pos rfl]
    rcases t_man fu (U 2) M1 (V 19) b1 m1 hnp y2 with ⟨p, hp, rfl, e1, e2⟩ | ⟨e1, e2⟩
    rotate_left
    · rw [e1, e2, tx_b1_q, tx_b1_q, if_pos rfl, if_pos rfl, tx_b3_q]
      by_cases h0 : M1 33 ((1 : Int32).toNatClampNeg) = 0
      · rw [if_pos h0]; exact bad _ _
      · rw [if_neg h0]; exact bad _ _
    obtain ⟨bh, c1, c2⟩ := bh_q (B := U 2) (W := U 1) (M := pT M1) (v := V 19) fu b5 ((pT_pf M1 0 13 (by decide)).trans m5) hnt (fun t ht => by
      rw [pT_n _ (by decide), pT_n _ (by decide), pT_n _ (by decide)]
      exact ⟨(hwt t ht).1, (hwt t ht).2.1, (hbt t ht).2.1⟩) (nI p) nt 0 fu fu 0 (by omega) (by omega) (by omega)
    have c1' : f_X10_bestHeld fu (U 1) (U 2) (nI p) = some bh := c1
    have c2' : f_X12_bestHeld fu (pT M1) (V 19) (nI p) = some bh := c2
    obtain ⟨sk, n0, n1⟩ := nms p hp
    obtain ⟨vN', v', n2, n3, n4, n5⟩ := n1 bh
    rw [e1, e2, tx_b1_q, tx_b1_q, if_neg one_ne, if_neg one_ne, tx_ck_q (j := p) (n := 6) (by omega) (by omega), c1', tx_b1_q, nI_clamp (n := p) (by omega), n2, tx_b1_q, J63_p fu M1 (V 19) c2', J104_s fu _ _ (by decide) (by omega) n0]
    unfold f_X12_law_J123
    rw [n3, tx_b1_q]
    by_cases h0 : M1 33 ((1 : Int32).toNatClampNeg) = 0
    · have e : f_X5_work_oNr0 fu (U 17) vN' (V 17) 1 = _ := told 1 (by omega) h0 vN' (V 17)
      rw [if_pos h0, e, tx_b2_q, tx_b3_q]
      exact bad _ _
    · obtain ⟨r, vL', x, v'', g1, g2, g3⟩ := law_end fu hf hlw (j := 1) (by omega) (by rw [p33]; exact h0) (V 17) vN' v' n5
      have g1' : f_X5_work_oNr0 fu (U 17) vN' (V 17) 1 = some (r, vL') := g1
      have g2' : (tx_b3 (f_X12_lawOf fu (pT M1) v' 1) fun (r_32 : Int64) (u_T_33 : S32) (v_T_34 : S64) => if (u_T_33 0 48) = (0 : Int32) then (some (r_32, u_T_33, v_T_34)) else (some ((-9223372036854775808 : Int64), u_T_33, v_T_34))) = some (r, up2 (pT M1) 0 48 x, v'') := g2
      rw [if_neg h0, g1', g2', tx_b2_q, tx_b3_q]
      exact good _ _ _ _ _ (fun r a b => (g3 r b).trans (n4 r a))
  rw [if_neg x1]
  by_cases x2 : y1 = 2
  · subst x2
    have ck6 : ∀ k : Option (Int64 × S32 × S64), tx_ck (2 : Int32) 6 k = k := fun k => rfl
    rw [if_pos rfl, isIn_t fu (by decide) (by decide), tx_b1_q, if_neg one_ne, ck6, if_neg (show ¬ (2 : Int32) = 1 by decide)]
    unfold f_X10_hideLawNow f_X12_law_J36
    rw [if_neg (show ¬ (2 : Int32) = 1 by decide)]
    rcases t_thought fu (U 2) M1 (V 19) b5 m5 hnt y2 with ⟨t, ht, rfl, e1, e2⟩ | ⟨e1, e2⟩
    rotate_left
    · rw [held_no fu e1, e2, tx_b1_q, tx_b1_q, if_pos rfl, if_pos rfl, tx_b3_q]
      by_cases h0 : M1 33 ((2 : Int32).toNatClampNeg) = 0
      · rw [if_pos h0]; exact bad _ _
      · rw [if_neg h0]; exact bad _ _
    have ck := fun k : Option (Int64 × S32 × S64) => tx_ck_q (j := t) (n := 24) (by omega) (by omega) k
    have dk := fun k : Option (Int64 × S64 × S64) => tx_ck_q (j := t) (n := 12) (by omega) (by omega) k
    rw [c_held fu b5 hnt b1 hnp hwi ht, e2, tx_b1_q, tx_b1_q, if_neg one_ne, ck, nI_clamp (n := t) (by omega), ← (hwt t ht).1]
    by_cases hs : U 1 11 t = 1
    rotate_left
    · rw [if_neg hs, if_neg hs, if_pos rfl, tx_b3_q]
      by_cases h0 : M1 33 ((2 : Int32).toNatClampNeg) = 0
      · rw [if_pos h0]; exact bad _ _
      · rw [if_neg h0]; exact bad _ _
    obtain ⟨p, hp, hh⟩ := held_p hwi ht hs
    obtain ⟨vN', v', n2, n3, n4, n5⟩ := nm fu hf hW (V 11) (V 19) hp hp (-1) 0 (U 2 8 t) (Or.inr ⟨rfl, rfl⟩)
    rw [nI_0] at n3
    have m51 : pT M1 51 t = nI p := by rw [pT_n _ (by decide), ← (hwt t ht).2.1, hh]
    have m27 : pT M1 27 t = U 2 8 t := by rw [pT_n _ (by decide), ← (hbt t ht).2.1]
    rw [if_pos hs, if_neg one_ne, if_pos hs, dk, dk, hh, n2, tx_b1_q, J63_t fu M1 (V 19) (by decide) (by omega) m51, J104_2, m27]
    unfold f_X12_law_J123
    rw [n3, tx_b1_q]
    by_cases h0 : M1 33 ((2 : Int32).toNatClampNeg) = 0
    · have e : f_X5_work_oNr0 fu (U 17) vN' (V 17) 2 = _ := told 2 (by omega) h0 vN' (V 17)
      rw [if_pos h0, e, tx_b2_q, tx_b3_q]
      exact bad _ _
    · obtain ⟨r, vL', x, v'', g1, g2, g3⟩ := law_end fu hf hlw (j := 2) (by omega) (by rw [p33]; exact h0) (V 17) vN' v' n5
      have g1' : f_X5_work_oNr0 fu (U 17) vN' (V 17) 2 = some (r, vL') := g1
      have g2' : (tx_b3 (f_X12_lawOf fu (pT M1) v' 2) fun (r_32 : Int64) (u_T_33 : S32) (v_T_34 : S64) => if (u_T_33 0 48) = (0 : Int32) then (some (r_32, u_T_33, v_T_34)) else (some ((-9223372036854775808 : Int64), u_T_33, v_T_34))) = some (r, up2 (pT M1) 0 48 x, v'') := g2
      rw [if_neg h0, g1', g2', tx_b2_q, tx_b3_q]
      exact good _ _ _ _ _ (fun r a b => (g3 r b).trans (n4 r a))
  rw [if_neg x2]
  have hb : y1 < 0 ∨ 2 < y1 := by
    by_cases a0 : y1 < 0
    · exact Or.inl a0
    · by_cases a2 : 2 < y1
      · exact Or.inr a2
      · obtain ⟨j, hj, rfl⟩ := nI_of2 (M := 2) (n := 2) rfl a0 (Int32.not_lt.mp a2)
        have : j = 0 ∨ j = 1 ∨ j = 2 := by omega
        rcases this with rfl | rfl | rfl
        · exact absurd rfl x0
        · exact absurd rfl x1
        · exact absurd rfl x2
  rw [isIn_f fu hb, tx_b1_q, if_pos rfl]
  exact bad _ _
