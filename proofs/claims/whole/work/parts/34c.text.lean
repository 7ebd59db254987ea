/-! a text is told, or has a fault -/
def clB (B : S32) : S32 := up2 (up2 (up2 (up2 (up2 (up2 (up2 B 0 0 0) 0 1 0) 0 5 0) 0 10 0) 0 14 20) 0 15 5) 0 16 0
def clL (L : S32) : S32 := up2 (up2 (up2 (up2 L 0 5 0) 3 0 (-1)) 3 1 (-1)) 3 2 (-1)
theorem clr_f (fu : Nat) (hf : 1000 ≤ fu) (vL : S64) (B L : S32) : f_X0_clear fu vL B L = some (clB B, clL L) := by
  obtain ⟨f, rfl⟩ : ∃ f, fu = f + 4 := ⟨fu - 4, by omega⟩
  rfl
theorem RX_F {kB q0 : Nat} {T W B F D W2 Z L P M W3 Z' P' M' : S32} {dr idr : Int64} (h : RX kB q0 T W B F D W2 Z L P (pj M) dr idr W3) (hr : ∀ r, r ≠ 0 → pj M' r = pj M r) (h0 : ∀ i, i ≠ 1 → i ≠ 4 → i ≠ 5 → pj M' 0 i = pj M 0 i) (ht : tpOK P' (pj M')) (hz : Z' 0 2 = pj M' 0 4 ∧ Z' 0 3 = pj M' 0 5) : RX kB q0 T W B F D W2 Z' L P' (pj M') dr idr W3 := by
  obtain ⟨np, nt, nr, ⟨hb, hbi, hlw⟩, ⟨hw, hwi, hwb, hst, hnb⟩, ⟨-, -, hwo⟩, hfd, him, hud⟩ := h
  refine ⟨np, nt, nr, ⟨hb.c (fun r h1 h2 => hr r (by omega)) (h0 _ (by decide) (by decide) (by decide)) (h0 _ (by decide) (by decide) (by decide)) (h0 _ (by decide) (by decide) (by decide)), hbi, hlw.c (fun r h1 h2 => hr r (by omega)) (h0 _ (by decide) (by decide) (by decide))⟩, ⟨hw.c (fun r h1 h2 => hr r (by omega)), hwi, hwb, ?_, hnb⟩, ⟨ht, hz, ?_⟩, hfd.c (h0 _ (by decide) (by decide) (by decide)) (h0 _ (by decide) (by decide) (by decide)) (hr _ (by decide)), him.c (h0 _ (by decide) (by decide) (by decide)) (hr _ (by decide)) (hr _ (by decide)), hud.c (h0 _ (by decide) (by decide) (by decide)) (hr _ (by decide))⟩
  · intro t h
    rw [hr 50 (by decide)]
    exact hst t h
  · intro j hj
    rw [hr 4 (by decide)]
    exact hwo j hj
theorem LF.pl {M0 M : S32} (h : LF M0 M) : LF M0 (plM M) := by
  unfold plM
  exact (((((((((((((h.up _ (by decide)).up _ (by decide)).up _ (by decide)).up _ (by decide)).up _ (by decide)).up _ (by decide)).up _ (by decide)).up _ (by decide)).up _ (by decide)).up _ (by decide)).up _ (by decide)).up _ (by decide)).up _ (by decide)).up _ (by decide)
/-- both begin -/
theorem beg_q (fu : Nat) (hf : 1000 ≤ fu) {P M : S32} (Z K B L : S32) (vL v : S64) {j n : Nat} (hj : j ≤ n) (hn : n ≤ 700) (hrow : ∀ i, i < n → ∃ a, a ≤ 255 ∧ M 1 i = nI a ∧ P 1 i = (nI a).toInt8.toInt32) (hwo : ∀ i, i < 105 → M 4 i = wd_X12_104 i) :
    ∃ K1 M2 n1, f_X8_start fu P K (nI j) = some K1 ∧ f_X12_token fu v (plM (up2 (up2 (up2 (up2 (up2 (up2 M 0 2 0) 0 6 (nI j)) 0 1 0) 0 4 0) 0 5 (-1)) 0 7 0)) = some M2 ∧ TX P (up2 (up2 (up2 Z 0 2 0) 0 3 (-1)) 0 6 0) K1 (clB B) (clL L) M2 j n1 0 0 0 ∧ LF (up2 (up2 (up2 M 0 2 0) 0 6 (nI j)) 0 1 0) M2 ∧ (¬ K1 0 4 = 0 → 0 < n1) := by
  obtain ⟨M1, q1⟩ : ∃ M1, M1 = plM (up2 (up2 (up2 (up2 (up2 (up2 M 0 2 0) 0 6 (nI j)) 0 1 0) 0 4 0) 0 5 (-1)) 0 7 0) := ⟨_, rfl⟩
  rw [← q1]
  have r1 : M1 1 = M 1 := by rw [q1]; rfl
  have r4 : M1 4 = M 4 := by rw [q1]; rfl
  have hT : TK P (up2 (up2 K 0 1 (nI j)) 0 2 0) M1 j 0 := by
    refine ⟨⟨by omega, fun i hi => ?_⟩, fun i hi => ?_, Nat.zero_le _, ?_, ?_, ?_, ?_⟩
    · rw [r1]; exact hrow i (by omega)
    · rw [r4]; exact hwo i hi
    · rfl
    · rfl
    · rw [q1]; rfl
    · rw [q1]; rfl
  obtain ⟨K1, M2, n1, a1, a2, a3, a4, a5, a6, a7, a8⟩ := adv_q fu hf v hT
  refine ⟨K1, M2, n1, ?_, a2, ⟨⟨a3, a4, a5⟩, ?_, ?_, ?_, ?_, ?_, ?_⟩, ?_, a8⟩
  · unfold f_X8_start
    rw [tx_let_q, tx_let_q, a1, tx_b1_q]
  · have hB : bkU (clB B) M1 0 0 0 := by
      rw [q1]
      exact ⟨⟨by omega, by omega, by omega⟩, ⟨rfl, rfl⟩, ⟨rfl, rfl⟩, ⟨rfl, rfl⟩, fun p hp => absurd hp (by omega), fun p hp => absurd hp (by omega), fun p hp => absurd hp (by omega), rfl, rfl, rfl⟩
    exact hB.e (fun r i _ _ => a6.p (by omega)) (fun i _ _ => a6.p (by omega))
  · exact ⟨fun p hp => absurd hp (by omega), fun p hp => absurd hp (by omega), fun p hp => absurd hp (by omega), ⟨20, by omega, rfl⟩, ⟨5, by omega, by omega, rfl⟩, ⟨0, by omega, rfl⟩⟩
  · have hl : lwU (clL L) M1 := by
      rw [q1]
      refine ⟨0, by omega, rfl, rfl, fun i hi => absurd hi (by omega), fun j hj => Or.inl ?_⟩
      rcases lt3 hj with rfl | rfl | rfl <;> exact ⟨rfl, rfl⟩
    exact hl.e (fun r i _ _ => a6.p (by omega)) (a6.p (by omega))
  · refine ⟨0, 0, 0, by omega, by omega, by omega, rfl, ?_, ?_, ?_⟩
    · rw [a6.p (by omega), q1]; rfl
    · rw [a6.p (by omega), q1]; rfl
    · rw [a6.p (by omega), q1]; rfl
  · rw [a6.p (by omega), a6.p (by omega), q1]; rfl
  · refine ⟨rfl, rfl, ?_, ?_⟩
    · rw [a6.p (by omega), q1]; rfl
    · rw [a6.p (by omega), q1]; rfl
  · have l1 : LF (up2 (up2 (up2 M 0 2 0) 0 6 (nI j)) 0 1 0) M1 := by
      rw [q1]
      exact ((((LF.refl _).ft _ (Or.inl rfl)).ft _ (Or.inr rfl)).up _ (by decide)).pl
    exact l1.fm a6
theorem lfM {M M' : S32} {j : Nat} (h : LF (up2 (up2 (up2 M 0 2 0) 0 6 (nI j)) 0 1 0) M') : (∀ r, r ≠ 0 → pj M' r = pj M r) ∧ (∀ i, i ≠ 1 → i ≠ 4 → i ≠ 5 → pj M' 0 i = pj M 0 i) ∧ M' 0 1 = 0 := by
  refine ⟨fun r hr => ?_, fun i h1 h4 h5 => ?_, ?_⟩
  · funext i
    unfold pj
    by_cases hl : rl r i = true
    · rw [if_pos hl, if_pos hl, h r i hl (fun w => absurd w hr), up2_n _ _ _ hr, up2_n _ _ _ hr, up2_n _ _ _ hr]
    · rw [if_neg hl, if_neg hl]
  · unfold pj
    by_cases hl : rl 0 i = true
    · have n2 : i ≠ 2 := fun w => by subst w; exact absurd hl (by decide)
      have n6 : i ≠ 6 := fun w => by subst w; exact absurd hl (by decide)
      rw [if_pos hl, if_pos hl, h 0 i hl (fun _ => ⟨h4, h5⟩), up2_i _ _ _ h1, up2_i _ _ _ n6, up2_i _ _ _ n2]
    · rw [if_neg hl, if_neg hl]
  · rw [h 0 1 (by decide) (fun _ => ⟨by decide, by decide⟩), up2_e]
set_option maxHeartbeats 4000000 in
theorem sp1 (fu : Nat) (hf : 1000 ≤ fu) : SP1 RR fu := by
  intro k q U V y1 hR
  have hR' : RX (k 0) (q 0) (U 0) (U 1) (U 2) (U 4) (U 5) (U 9) (U 12) (U 17) (U 18) (pj (U 19)) (V 19 0 59) (V 19 0 80) (U 7) := hR
  obtain ⟨np, nt, nr, ⟨hb, hbi, hlw⟩, ⟨hw, hwi, hwb, hst, hnb, hbit⟩, ⟨htp, hz, hwo⟩, hfd, him, hud⟩ := id hR'
  obtain ⟨n, hn, p1, m1, hrow⟩ := id htp
  have m1' : (up2 (U 19) 0 2 0) 0 1 = nI n := by
    rw [up_t _ (by decide)]
    exact m1
  have ref : f_X11_text fu (V 16) (q 3) (k 0) (q 2) (k 1) (k 3) (U 0) (U 18) (U 12) (U 15) (U 16) (U 14) (U 13) (U 1) (U 4) (U 5) y1 = some (-2, U 0, U 18, U 12, U 15, U 16, U 14, U 13, U 1, U 4, U 5, q 3, k 0, k 1, k 0, q 2) → f_X12_text fu (U 19) (V 19) y1 = some (-2, up2 (U 19) 0 2 0, V 19) → ∃ (r : Int32) (zu_T : S32) (zu_P : S32) (zu_Z : S32) (zu_B2 : S32) (zu_L2 : S32) (zu_K : S32) (zu_R : S32) (zu_W : S32) (zu_F : S32) (zu_D : S32) (zq_R_8 : Nat) (zq_T_1 : Nat) (zq_T_2 : Nat) (zq_W_0 : Nat) (zq_Z_4 : Nat) (zu_M : S32) (zv_M : S64), f_X11_text fu (V 16) (q 3) (k 0) (q 2) (k 1) (k 3) (U 0) (U 18) (U 12) (U 15) (U 16) (U 14) (U 13) (U 1) (U 4) (U 5) y1 = some (r, zu_T, zu_P, zu_Z, zu_B2, zu_L2, zu_K, zu_R, zu_W, zu_F, zu_D, zq_R_8, zq_T_1, zq_T_2, zq_W_0, zq_Z_4) ∧ f_X12_text fu (U 19) (V 19) y1 = some (r, zu_M, zv_M) ∧ ((zq_T_1 = k 0 ∧ zq_T_2 = k 1 ∧ zq_W_0 = k 0 ∧ RR k (va_up (va_up q 3 zq_R_8) 2 zq_Z_4) (va_up (va_up (va_up (va_up (va_up (va_up (va_up (va_up (va_up (va_up (va_up U 0 zu_T) 18 zu_P) 12 zu_Z) 15 zu_B2) 16 zu_L2) 14 zu_K) 13 zu_R) 1 zu_W) 4 zu_F) 5 zu_D) 19 zu_M) (va_up V 19 zv_M)) ∨ (zq_T_1 = k 1 ∧ zq_T_2 = k 0 ∧ zq_W_0 = k 1 ∧ RR (lawKs k) (va_up (va_up q 3 zq_R_8) 2 zq_Z_4) (lawUs (va_up (va_up (va_up (va_up (va_up (va_up (va_up (va_up (va_up (va_up (va_up U 0 zu_T) 18 zu_P) 12 zu_Z) 15 zu_B2) 16 zu_L2) 14 zu_K) 13 zu_R) 1 zu_W) 4 zu_F) 5 zu_D) 19 zu_M)) (lawVs (va_up V 19 zv_M)))) := by
    intro e1 e2
    refine ⟨_, _, _, _, _, _, _, _, _, _, _, _, _, _, _, _, _, _, e1, e2, Or.inl ⟨rfl, rfl, rfl, ?_⟩⟩
    show RX (k 0) (q 0) (U 0) (U 1) (U 2) (U 4) (U 5) (U 9) (U 12) (U 17) (U 18) (pj (up2 (U 19) 0 2 0)) (V 19 0 59) (V 19 0 80) (U 7)
    rw [pj_thrown]
    exact hR'
  rcases pk_ix y1 (n := n + 1) (by omega) with h | h | ⟨j, hj, rfl⟩
  · refine ref ?_ ?_
    · unfold f_X11_text; rw [if_pos h]
    · unfold f_X12_text; rw [tx_let_q, if_pos h]
  · have h0 : ¬ y1 < 0 := fun w => by
      rw [Int32.lt_iff_toInt_lt] at w
      rw [Int32.le_iff_toInt_le, nI_toInt (by omega)] at h
      have : (0 : Int32).toInt = 0 := rfl
      omega
    have h1 : ¬ y1 ≤ nI n := fun w => by
      rw [Int32.le_iff_toInt_le, nI_toInt (by omega)] at w h
      omega
    refine ref ?_ ?_
    · unfold f_X11_text; rw [if_neg h0, p1, if_neg h1]
    · unfold f_X12_text; rw [tx_let_q, if_neg h0, m1', if_neg h1]
  have hc1 : ¬ nI j < 0 := nI_pos (n := j) (by omega)
  have hc2 : nI j ≤ nI n := nI_le (by omega) (by omega)
  obtain ⟨K1, M2, n1, b1, b2, b3, b4, b5⟩ := beg_q fu hf (P := U 18) (M := U 19) (U 12) (U 14) (U 15) (U 16) (V 16) (V 19) (j := j) (n := n) (by omega) hn (fun i hi => by
    obtain ⟨a, x1, x2, x3⟩ := hrow i hi
    rw [pj_in (rl1 i)] at x2
    exact ⟨a, x1, x2, x3⟩) (fun i hi => by
    have x := hwo i hi
    rw [pj_in (rlw4 i)] at x
    exact x)
  have dT : f_X7_tell fu (V 16) (U 18) (q 3) (k 3) (U 12) (U 15) (U 16) (U 14) (U 13) (nI j) = f_X7_tell_L37 fu (V 16) (U 18) (q 3) (k 3) fu (up2 (up2 (up2 (U 12) 0 2 0) 0 3 (-1)) 0 6 0) (clB (U 15)) (clL (U 16)) K1 (U 13) (q 3) (nI 0) := by
    unfold f_X7_tell
    rw [clr_f fu hf, tx_b2_q, tx_let_q, tx_let_q, tx_let_q, b1, tx_b1_q]
    rfl
  have dX : f_X12_text fu (U 19) (V 19) (nI j) = f_X12_text_L55 fu fu M2 (V 19) (nI 0) := by
    unfold f_X12_text
    rw [tx_let_q, if_neg hc1, m1', if_pos hc2, tx_let_q, tx_let_q, tx_let_q, tx_let_q, tx_let_q, plM_f fu hf, tx_b1_q, b2, tx_b1_q]
    rfl
  have dC : f_X11_text fu (V 16) (q 3) (k 0) (q 2) (k 1) (k 3) (U 0) (U 18) (U 12) (U 15) (U 16) (U 14) (U 13) (U 1) (U 4) (U 5) (nI j) = (tx_b7 (f_X7_tell_L37 fu (V 16) (U 18) (q 3) (k 3) fu (up2 (up2 (up2 (U 12) 0 2 0) 0 3 (-1)) 0 6 0) (clB (U 15)) (clL (U 16)) K1 (U 13) (q 3) (nI 0)) fun (r_4 : Int32) (u_Z_5 : S32) (u_B_6 : S32) (u_L_7 : S32) (u_K_8 : S32) (u_R_9 : S32) (q_10 : Nat) => tx_let (up2 (U 18) 0 1 (0 : Int32)) fun (u_P_11 : S32) => if r_4 = (0 : Int32) then (some ((-1 : Int32), U 0, u_P_11, u_Z_5, u_B_6, u_L_7, u_K_8, u_R_9, U 1, U 4, U 5, q_10, k 0, k 1, k 0, k 1)) else (tx_b1 (f_X10_begin fu u_B_6 (U 1)) fun (u_W_14 : S32) => tx_b1 (f_X2_clear fu (U 4)) fun (u_F_16 : S32) => tx_b1 (f_X1_clear fu (U 5)) fun (u_D_18 : S32) => tx_let (up2 (U 0) 0 10 (0 : Int32)) fun (u_T_19 : S32) => some (u_B_6 0 0, u_T_19, u_P_11, u_Z_5, u_B_6, u_L_7, u_K_8, u_R_9, u_W_14, u_F_16, u_D_18, q_10, k 1, k 0, k 1, k 1))) := by
    unfold f_X11_text
    rw [if_neg hc1, p1, if_pos hc2, dT]
  rcases tellL fu hf (M0 := up2 (up2 (up2 (U 19) 0 2 0) 0 6 (nI j)) 0 1 0) (V 16) (V 19) (q 3) (k 3) (j + 1) _ K1 _ _ (U 13) M2 n1 0 0 0 0 (q 3) fu fu b3 b4 rfl (Nat.zero_le _) b5 (fun _ => by omega) (by omega) (by omega) with ⟨Z', B', L', K', R', q', M', c1, c2, c3⟩ | ⟨Z', B', L', K', R', q', M', nx', np', nt', nr', i', c1, c2, c3, c4, c5⟩
  · obtain ⟨g1, g2, g3⟩ := lfM c3.2.2
    refine ⟨-1, U 0, up2 (U 18) 0 1 0, Z', B', L', K', R', U 1, U 4, U 5, q', k 0, k 1, k 0, k 1, M', V 19, ?_, ?_, Or.inl ⟨rfl, rfl, rfl, ?_⟩⟩
    · rw [dC, c1, tx_b7_q, tx_let_q, if_pos rfl]
    · rw [dX, c2]
    · show RX (k 0) (q 0) (U 0) (U 1) (U 2) (U 4) (U 5) (U 9) Z' (U 17) (up2 (U 18) 0 1 0) (pj M') (V 19 0 59) (V 19 0 80) (U 7)
      refine RX_F hR' g1 g2 ⟨0, by omega, rfl, ?_, fun i hi => absurd hi (by omega)⟩ ⟨?_, ?_⟩
      · rw [pj_in (by decide)]; exact g3
      · rw [pj_in (by decide)]; exact c3.1
      · rw [pj_in (by decide)]; exact c3.2.1
  · obtain ⟨g1, g2, g3⟩ := lfM c4
    obtain ⟨hS, hB, hbi', hl', -, -, z2, z3, m4, m5⟩ := c3
    obtain ⟨W, M3, v', e1, e2, e3, e4, e5, ⟨e6, e7, e8, e9⟩, e10, e11⟩ := told_q fu hf (W3 := U 7) (Tw := U 1) (v := V 19) hB hbi' hl' hbit.2 hbit.1
    refine ⟨nI i', up2 (U 0) 0 10 0, up2 (U 18) 0 1 0, Z', B', L', K', R', W, up2 (up2 (U 4) 0 5 0) 0 6 (-1), up2 (U 5) 0 3 0, q', k 1, k 0, k 1, k 1, M3, v', ?_, ?_, Or.inr ⟨rfl, rfl, rfl, ?_⟩⟩
    · rw [dC, c1, tx_b7_q, tx_let_q, if_neg one_ne, e1, tx_b1_q, c5]
      rfl
    · rw [dX, c2, e2, tx_b2_q]
    · show RX (k 1) (q 0) (up2 (U 0) 0 10 0) W B' (up2 (up2 (U 4) 0 5 0) 0 6 (-1)) (up2 (U 5) 0 3 0) (U 9) Z' L' (up2 (U 18) 0 1 0) (pj M3) (v' 0 59) (v' 0 80) (U 7)
      refine ⟨np', nt', nr', ⟨e3, hbi', e4⟩, e5, ⟨⟨0, by omega, rfl, ?_, fun j hj => absurd hj (by omega)⟩, ⟨?_, ?_⟩, fun i hi => ?_⟩, ⟨0, by omega, rfl, ?_, ?_, Or.inl rfl, fun i hi => absurd hi (by omega)⟩, ⟨?_, Or.inl rfl⟩, ⟨0, by omega, rfl, ?_, trivial⟩⟩
      · rw [pj_in (by decide), e10 1 (by omega)]; exact g3
      · rw [pj_in (by decide), e10 4 (by omega), m4]; exact z2
      · rw [pj_in (by decide), e10 5 (by omega), m5]; exact z3
      · rw [pj_in (rlw4 i), e11 4 (by decide) (by omega)]
        have x := hwo i hi
        have y := congrFun (g1 4 (by decide)) i
        rw [pj_in (rlw4 i), pj_in (rlw4 i)] at y
        rw [pj_in (rlw4 i)] at x
        rw [y, x]
      · rw [pj_in (by decide), e6]; rfl
      · rw [pj_in (by decide), e7]; rfl
      · rw [pj_in (by decide), e9]; rfl
      · rw [pj_in (by decide), e8]; rfl
