/-! a reader's line -/
theorem rea_q (fu : Nat) (hf : 1000 ≤ fu) {P Z K B L M : S32} (v : S64) {e nx np nt nr : Nat} (h : TX P Z K B L M e nx np nt nr) : (∃ Z' B' K' M', f_X7_takeReader fu P Z B K = some (0, Z', B', K') ∧ f_X12_readerLine fu v M = some (0, M') ∧ FT2 Z' M M') ∨ (∃ Z' B' K' M' nx', f_X7_takeReader fu P Z B K = some (1, Z', B', K') ∧ f_X12_readerLine fu v M = some (1, M') ∧ TX P Z' K' B' L M' e nx' np nt (nr + 1) ∧ LF M M' ∧ nx ≤ nx' ∧ B' 0 0 = B 0 0) := by
  obtain ⟨hS, hB, hbi, -⟩ := id h
  obtain ⟨⟨hnp, hnt, hnr⟩, ⟨b1, m1⟩, ⟨b5, m5⟩, ⟨b10, m10⟩, hbp, hbt, hbr, ho⟩ := id hB
  unfold f_X7_takeReader f_X12_readerLine f_X7_takeReader_J17
  rw [tx_let_q (B 0 10), b10, m10, if_neg (nI_pos (n := nr) (by omega))]
  by_cases h6 : nr = 4
  · obtain ⟨Z', M', c1, c2, c3⟩ := bl_q fu Z v hS.2.1 (LF.refl M) 2
    left
    rw [if_neg (show ¬ nI nr < (4 : Int32) from nI_nlt (b := 4) (by omega) (by omega)), c1, tx_b2_q, tx_bz_0, if_pos (show nI nr = (4 : Int32) by rw [h6]; rfl), c2, tx_b2_q, tx_bz_0]
    exact ⟨_, _, _, _, rfl, rfl, c3⟩
  have hlt : nr < 4 := by omega
  rw [if_pos (show nI nr < (4 : Int32) from nI_lt (b := 4) hlt (by omega)), if_neg (show ¬ nI nr = (4 : Int32) from fun z => h6 ((nI_eq (b := 4) (by omega) (by omega)).mp z))]
  obtain ⟨K1, M1, n1, a1, a2, a3, a4, a5, a6, a7, -⟩ := adv_q fu hf v hS.1
  have x16 : M1 0 18 = nI nr := (a6.p (by omega)).trans m10
  have l1 : LF M M1 := (LF.refl M).fm a6
  rw [a1, tx_b1_q, a2, tx_b1_q, x16]
  unfold f_X0_readerNamed f_X0_placeOf_oX0r12 f_X12_newName_tX12r30 f_X12_seek_oX12r30 f_X7_isNewName f_X7_isNewName_J30
  have hsk := sk_12 fu (B := B) (M := M1) v hnr (fun p hp => by rw [a6.p (by omega)]; exact (hbr p hp).1) (K1 0 5) nr 0 fu fu (by omega) (by omega) (by omega)
  rw [nI_0] at hsk
  rw [b10]
  by_cases zn : K1 0 4 = 3
  rotate_left
  · -- no name
    left
    have hr : ∃ x, f_X0_placeOf_oX0r12_L2 fu B fu (nI nr) (K1 0 5) 0 = some x := by
      rcases hsk with ⟨p, -, h1, -⟩ | ⟨h1, -⟩
      · exact ⟨_, h1⟩
      · exact ⟨_, h1⟩
    obtain ⟨x, hx⟩ := hr
    obtain ⟨Z', M', c1, c2, c3⟩ := bl_q fu Z v a4 l1 1
    rw [hx, tx_b1_q, tx_b1_q, if_neg zn, if_neg (fun w => zn ((kn_q a5).2.2.1.mpr w)), c1, c2, tx_b2_q, tx_b2_q, tx_bz_0, tx_bz_0, tx_b2_q, tx_b2_q, if_pos rfl, if_pos rfl]
    exact ⟨_, _, _, _, rfl, rfl, c3⟩
  rcases hsk with ⟨p, hp, h1, h2⟩ | ⟨h1, h2⟩
  · left
    obtain ⟨Z', M', c1, c2, c3⟩ := bl_q fu Z v a4 l1 3
    rw [h1, tx_b1_q, tx_b1_q, if_pos zn, if_pos ((kn_q a5).2.2.1.mp zn), ← kn_nam a5 zn, h2, tx_b1_q, if_neg (m1_ne (by omega)), if_neg (nI_pos (n := p) (by omega)), c1, c2, tx_b2_q, tx_b2_q, tx_bz_0, if_pos rfl, tx_b2_q, tx_b2_q, if_pos rfl, if_pos rfl]
    exact ⟨_, _, _, _, rfl, rfl, c3⟩
  have e6 : (4 : Int32) + nI nr = nI (4 + nr) := nI_add 4 nr
  have ck := fun k : Option (Int32 × S32) => tx_ck_q (j := 4 + nr) (n := 8) (by omega) (by omega) k
  have dk := fun k : Option (Int32 × S32 × S32 × S32) => tx_ck_q (j := nr) (n := 4) (by omega) (by omega) k
  rw [h1, tx_b1_q, tx_b1_q, if_pos zn, if_pos ((kn_q a5).2.2.1.mp zn), ← kn_nam a5 zn, h2, tx_b1_q, if_pos rfl, if_pos (show (-1 : Int32) < 0 by decide), e6, ck, nI_clamp (n := 4 + nr) (by omega), tx_let_q (up2 M1 30 (4 + nr) (K1 0 5)), tx_b2_q, if_neg one_ne, dk, nI_clamp (n := nr) (by omega), tx_let_q (up2 B 12 nr (K1 0 5))]
  have s1 : TK P K1 (up2 M1 30 (4 + nr) (K1 0 5)) e n1 := a3.up _ (by omega)
  obtain ⟨K2, M2, n2, d1, d2, d3, d4, d5, d6, d7, -⟩ := adv_q fu hf v s1
  have l2 : LF M M2 := (l1.up _ (hi_u (by omega))).fm d6
  rw [d1, d2, tx_b1_q, tx_b1_q, tx_b2_q, if_neg one_ne]
  -- the purse
  rcases num2_q fu hf (Z := Z) v (lo := 0) (hi := 9) ⟨d3, d4, d5⟩ (by omega) (by omega) l2 with ⟨Z', M', c1, c2, c3⟩ | ⟨a, K3, M3, n3, r1, r2, c1, c2, c3, c4, c5⟩
  · left
    have c1' : f_X7_takeNumber fu P Z K2 0 9 = some (0, Z', K2) := c1
    have c2' : f_X12_number fu v M2 0 9 = some (0, M') := c2
    rw [c1', c2', tx_b3_q, tx_b2_q, if_pos rfl, if_pos rfl]
    exact ⟨_, _, _, _, rfl, rfl, c3⟩
  have c1' : f_X7_takeNumber fu P Z K2 0 9 = some (1, up2 Z 0 5 (nI a), K3) := c1
  have c2' : f_X12_number fu v M2 0 9 = some (1, M3) := c2
  have l3 : LF M M3 := (l2.up (nI a) (show rl 0 11 = false by decide)).fm c5
  have y16 : M3 0 18 = nI nr := by rw [c5.p (by omega), up2_i _ _ _ (by decide), d6.p (by omega), up2_n _ _ _ (by decide)]; exact x16
  have y11 : M3 0 11 = nI a := by rw [c5.p (by omega), up2_e]
  rw [c1', c2', tx_b3_q, tx_b2_q, if_neg one_ne, if_neg one_ne, dk, tx_let_q (up2 (up2 B 12 nr (K1 0 5)) 13 nr ((up2 Z 0 5 (nI a)) 0 5)), up2_e, y16, e6, ck, nI_clamp (n := 4 + nr) (by omega), y11, tx_let_q (up2 M3 31 (4 + nr) (nI a))]
  have s3 := c3.up (r := 31) (i := 4 + nr) (nI a) (by omega)
  rcases num2_q fu hf (Z := up2 Z 0 5 (nI a)) v (lo := 0) (hi := 15) s3 (by omega) (by omega) (l3.up (nI a) (hi_u (by omega))) with ⟨Z', M', g1, g2, g3⟩ | ⟨b, K4, M4, n4, t1, t2, g1, g2, g3, g4, g5⟩
  · left
    have g1' : f_X7_takeNumber fu P (up2 Z 0 5 (nI a)) K3 0 15 = some (0, Z', K3) := g1
    have g2' : f_X12_number fu v (up2 M3 31 (4 + nr) (nI a)) 0 15 = some (0, M') := g2
    rw [g1', g2', tx_b3_q, tx_b2_q, if_pos rfl, if_pos rfl]
    exact ⟨_, _, _, _, rfl, rfl, g3⟩
  right
  have g1' : f_X7_takeNumber fu P (up2 Z 0 5 (nI a)) K3 0 15 = some (1, up2 (up2 Z 0 5 (nI a)) 0 5 (nI b), K4) := g1
  have g2' : f_X12_number fu v (up2 M3 31 (4 + nr) (nI a)) 0 15 = some (1, M4) := g2
  have w16 : M4 0 18 = nI nr := by rw [g5.p (by omega), up2_i _ _ _ (by decide), up2_n _ _ _ (by decide)]; exact y16
  have w11 : M4 0 11 = nI b := by rw [g5.p (by omega), up2_e]
  have v16 : (up2 M4 32 (4 + nr) (nI b)) 0 18 = nI nr := by rw [up2_n _ _ _ (by decide)]; exact w16
  have u1 : (up2 (up2 (up2 B 12 nr (K1 0 5)) 13 nr (nI a)) 14 nr (nI b)) 0 10 = nI nr := by rw [up2_n _ _ _ (by decide), up2_n _ _ _ (by decide), up2_n _ _ _ (by decide)]; exact b10
  rw [g1', g2', tx_b3_q, tx_b2_q, if_neg one_ne, if_neg one_ne, dk, up2_e, tx_let_q (up2 (up2 (up2 B 12 nr (K1 0 5)) 13 nr (nI a)) 14 nr (nI b)), u1, nI_1, tx_let_q, w16, e6, ck, nI_clamp (n := 4 + nr) (by omega), w11, tx_let_q (up2 M4 32 (4 + nr) (nI b)), v16, nI_1, tx_let_q]
  obtain ⟨Mz, qz⟩ : ∃ Mz, Mz = up2 (up2 M4 32 (4 + nr) (nI b)) 0 18 (nI (nr + 1)) := ⟨_, rfl⟩
  obtain ⟨Bz, qb⟩ : ∃ Bz, Bz = up2 (up2 (up2 (up2 B 12 nr (K1 0 5)) 13 nr (nI a)) 14 nr (nI b)) 0 10 (nI (nr + 1)) := ⟨_, rfl⟩
  rw [← qz, ← qb]
  have sz : ST P K4 Mz e n4 := by rw [qz]; exact (g3.up _ (by omega)).up _ (by omega)
  -- what has changed
  have z0 : ∀ r i, ¬ (r = 0 ∧ (7 ≤ i ∧ i ≤ 11 ∨ i = 18)) → ¬ ((r = 30 ∨ r = 31 ∨ r = 32) ∧ i = 4 + nr) → Mz r i = M r i := by
    intro r i q1 q2
    rw [qz, up2_a, if_neg (by omega), up2_a, if_neg (by omega), g5.p (by omega), up2_a, if_neg (by omega), up2_a, if_neg (by omega), c5.p (by omega), up2_a, if_neg (by omega), d6.p (by omega), up2_a, if_neg (by omega), a6.p (by omega)]
  have z23 : Mz 30 (4 + nr) = K1 0 5 := by
    rw [qz, up2_n _ _ _ (by decide), up2_n _ _ _ (by decide), g5.p (by omega), up2_n _ _ _ (by decide), up2_n _ _ _ (by decide), c5.p (by omega), up2_n _ _ _ (by decide), d6.p (by omega), up2_e]
  have z24 : Mz 31 (4 + nr) = nI a := by
    rw [qz, up2_n _ _ _ (by decide), up2_n _ _ _ (by decide), g5.p (by omega), up2_n _ _ _ (by decide), up2_e]
  have z25 : Mz 32 (4 + nr) = nI b := by
    rw [qz, up2_n _ _ _ (by decide), up2_e]
  have z16 : Mz 0 18 = nI (nr + 1) := by rw [qz, up2_e]
  have y0 : ∀ r i, ¬ (r = 0 ∧ i = 10) → ¬ ((r = 12 ∨ r = 13 ∨ r = 14) ∧ i = nr) → Bz r i = B r i := by
    intro r i q1 q2
    rw [qb, up2_a, if_neg (by omega), up2_a, if_neg (by omega), up2_a, if_neg (by omega), up2_a, if_neg (by omega)]
  have y3 : Bz 12 nr = K1 0 5 := by rw [qb, up2_n _ _ _ (by decide), up2_n _ _ _ (by decide), up2_n _ _ _ (by decide), up2_e]
  have y4 : Bz 13 nr = nI a := by rw [qb, up2_n _ _ _ (by decide), up2_n _ _ _ (by decide), up2_e]
  have y5 : Bz 14 nr = nI b := by rw [qb, up2_n _ _ _ (by decide), up2_e]
  have y1 : Bz 0 10 = nI (nr + 1) := by rw [qb, up2_e]
  refine ⟨_, _, _, _, n4, rfl, rfl, TXc h sz ⟨⟨hnp, hnt, by omega⟩, ⟨?_, ?_⟩, ⟨?_, ?_⟩, ⟨y1, z16⟩, fun p hp => ?_, fun t ht => ?_, fun r hr => ?_, ?_⟩ ⟨fun p hp => ?_, fun t ht => ?_, fun r hr => ?_, ?_⟩ (fun r i hr => z0 r i (by omega) (by omega)) (fun i hi => z0 0 i (by omega) (by omega)) (fun i hi => by rw [up2_i _ _ _ (by omega), up2_i _ _ _ (by omega)]), ?_, by omega, y0 0 0 (by omega) (by omega)⟩
  · rw [y0 0 1 (by omega) (by omega)]; exact b1
  · rw [z0 0 16 (by omega) (by omega)]; exact m1
  · rw [y0 0 5 (by omega) (by omega)]; exact b5
  · rw [z0 0 17 (by omega) (by omega)]; exact m5
  · rw [y0 3 p (by omega) (by omega), y0 4 p (by omega) (by omega), y0 5 p (by omega) (by omega), z0 23 _ (by omega) (by omega), z0 24 _ (by omega) (by omega), z0 25 _ (by omega) (by omega)]
    exact hbp p (by omega)
  · rw [y0 7 t (by omega) (by omega), y0 8 t (by omega) (by omega), y0 9 t (by omega) (by omega), y0 10 t (by omega) (by omega), z0 26 _ (by omega) (by omega), z0 27 _ (by omega) (by omega), z0 28 _ (by omega) (by omega), z0 29 _ (by omega) (by omega)]
    exact hbt t ht
  · by_cases ep : r = nr
    · subst ep
      rw [y3, y4, y5, z23, z24, z25]
      exact ⟨rfl, rfl, rfl⟩
    · rw [y0 12 r (by omega) (by omega), y0 13 r (by omega) (by omega), y0 14 r (by omega) (by omega), z0 30 _ (by omega) (by omega), z0 31 _ (by omega) (by omega), z0 32 _ (by omega) (by omega)]
      exact hbr r (by omega)
  · rw [y0 0 14 (by omega) (by omega), y0 0 15 (by omega) (by omega), y0 0 16 (by omega) (by omega), z0 22 3 (by omega) (by omega), z0 22 4 (by omega) (by omega), z0 22 5 (by omega) (by omega)]
    exact ho
  · rw [y0 4 p (by omega) (by omega), y0 5 p (by omega) (by omega)]
    exact hbi.1 p (by omega)
  · rw [y0 7 t (by omega) (by omega), y0 8 t (by omega) (by omega), y0 9 t (by omega) (by omega), y0 10 t (by omega) (by omega)]
    exact hbi.2.1 t ht
  · by_cases ep : r = nr
    · subst ep
      rw [y4, y5]
      exact ⟨⟨a, r2, rfl⟩, ⟨b, t2, rfl⟩⟩
    · rw [y0 13 r (by omega) (by omega), y0 14 r (by omega) (by omega)]
      exact hbi.2.2.1 r (by omega)
  · rw [y0 0 14 (by omega) (by omega), y0 0 15 (by omega) (by omega), y0 0 16 (by omega) (by omega)]
    exact hbi.2.2.2
  · intro r i hrl hri
    refine z0 r i (fun w => ?_) (fun w => ?_)
    · obtain ⟨rfl, w⟩ := w
      have : i = 7 ∨ i = 8 ∨ i = 9 ∨ i = 10 ∨ i = 11 ∨ i = 18 := by omega
      rcases this with rfl | rfl | rfl | rfl | rfl | rfl <;> exact absurd hrl (by decide)
    · rw [hi_u (by omega)] at hrl
      cases hrl
