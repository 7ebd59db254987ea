/-! lines: people, readers, thoughts -/
def onR (Z M : S32) : Prop := ∃ b0 b1 b2, b0 ≤ 1 ∧ b1 ≤ 1 ∧ b2 ≤ 1 ∧ Z 0 6 = nI (8 * b0 + 16 * b1 + 32 * b2) ∧ M 21 0 = nI b0 ∧ M 21 1 = nI b1 ∧ M 21 2 = nI b2
def TX (P Z K B L M : S32) (e nx np nt nr : Nat) : Prop := ST P K M e nx ∧ bkU B M np nt nr ∧ bkIn B np nt nr ∧ lwU L M ∧ onR Z M ∧ M 0 43 = M 0 19 ∧ (Z 0 2 = 0 ∧ Z 0 3 = -1 ∧ M 0 4 = 0 ∧ M 0 5 = -1)
theorem lwU.e {L M M' : S32} (h : lwU L M) (e : ∀ r i, 33 ≤ r → r ≤ 38 → M' r i = M r i) (e1 : M' 0 19 = M 0 19) : lwU L M' := by
  obtain ⟨n, h1, h2, h3, h4, h5⟩ := h
  refine ⟨n, h1, h2, e1.trans h3, fun i hi => ?_, fun j hj => ?_⟩
  · rw [e 36 _ (by omega) (by omega), e 37 _ (by omega) (by omega)]
    exact h4 i hi
  · rw [e 33 _ (by omega) (by omega), e 34 _ (by omega) (by omega), e 35 _ (by omega) (by omega)]
    rcases h5 j hj with h | ⟨a, x, y, b1, b2, b3, b4, b5, b6, b7⟩
    · exact Or.inl h
    · exact Or.inr ⟨a, x, y, b1, b2, b3, b4, b5, b6, knW.e (fun r i r1 r2 _ => e r _ (by omega) r2) _ _ _ (by omega) b7⟩
theorem FM.p {M M' : S32} (h : FM M M') {r i : Nat} (hs : ¬ (r = 0 ∧ 7 ≤ i ∧ i ≤ 10)) : M' r i = M r i := by
  by_cases e : r = 0
  · subst e
    exact h.2 i (by omega) (by omega) (by omega) (by omega)
  · rw [h.1 r e]
theorem TK.up {P K M : S32} {e nx : Nat} (h : TK P K M e nx) {r i : Nat} (x : Int32) (hs : r ≠ 1 ∧ r ≠ 4 ∧ ¬ (r = 0 ∧ 6 ≤ i ∧ i ≤ 10)) : TK P K (up2 M r i x) e nx := by
  obtain ⟨t1, t2, t3, t4, t5, t6, t7⟩ := h
  refine ⟨?_, fun j hj => by rw [up2_n _ _ _ (Ne.symm hs.2.1)]; exact t2 j hj, t3, t4, t5, ?_, ?_⟩
  · unfold tpR
    rw [up2_n _ _ _ (Ne.symm hs.1)]
    exact t1
  · rw [up2_a, if_neg (by omega)]; exact t6
  · rw [up2_a, if_neg (by omega)]; exact t7
theorem TKr.up {K M : S32} (h : TKr K M) {r i : Nat} (x : Int32) (hs : ¬ (r = 0 ∧ 6 ≤ i ∧ i ≤ 10)) : TKr K (up2 M r i x) := by
  have e8 : (up2 M r i x) 0 8 = M 0 8 := by rw [up2_a, if_neg (by omega)]
  have e9 : (up2 M r i x) 0 9 = M 0 9 := by rw [up2_a, if_neg (by omega)]
  unfold TKr
  rw [e8, e9]
  exact h
theorem ST.up {P K M : S32} {e nx : Nat} (h : ST P K M e nx) {r i : Nat} (x : Int32) (hs : r ≠ 1 ∧ r ≠ 4 ∧ ¬ (r = 0 ∧ 6 ≤ i ∧ i ≤ 10)) : ST P K (up2 M r i x) e nx :=
  ⟨h.1.up x hs, by rw [up2_a, if_neg (by omega)]; exact h.2.1, h.2.2.up x hs.2.2⟩
theorem TXc {P Z K B L M Z' K' B' M' : S32} {e nx np nt nr nx' np' nt' nr' : Nat} (h : TX P Z K B L M e nx np nt nr) (hS : ST P K' M' e nx') (hB : bkU B' M' np' nt' nr') (hbi : bkIn B' np' nt' nr') (hr : ∀ r i, r = 21 ∨ (33 ≤ r ∧ r ≤ 38) → M' r i = M r i) (h0 : ∀ i, i = 4 ∨ i = 5 ∨ i = 19 ∨ i = 43 → M' 0 i = M 0 i) (hZ : ∀ i, i = 2 ∨ i = 3 ∨ i = 6 → Z' 0 i = Z 0 i) : TX P Z' K' B' L M' e nx' np' nt' nr' := by
  obtain ⟨-, -, -, hl, hon, h43, z2, z3, m4, m5⟩ := h
  refine ⟨hS, hB, hbi, hl.e (fun r i a b => hr r i (Or.inr ⟨a, b⟩)) (h0 19 (by omega)), ?_, ?_, ?_⟩
  · unfold onR
    rw [hZ 6 (by omega), hr 21 _ (Or.inl rfl), hr 21 _ (Or.inl rfl), hr 21 _ (Or.inl rfl)]
    exact hon
  · rw [h0 43 (by omega), h0 19 (by omega)]; exact h43
  · rw [hZ 2 (by omega), hZ 3 (by omega), h0 4 (by omega), h0 5 (by omega)]
    exact ⟨z2, z3, m4, m5⟩
theorem hi_u {r i : Nat} (h : (23 ≤ r ∧ r ≤ 25 ∧ 6 ≤ i) ∨ (26 ≤ r ∧ r ≤ 29 ∧ 12 ≤ i) ∨ (30 ≤ r ∧ r ≤ 32 ∧ 4 ≤ i) ∨ (r = 22 ∧ 3 ≤ i) ∨ (33 ≤ r ∧ r ≤ 35 ∧ 3 ≤ i) ∨ (36 ≤ r ∧ r ≤ 38 ∧ 64 ≤ i) ∨ r = 21 ∨ (39 ≤ r ∧ r ≤ 49)) : rl r i = false := by
  have n3 : 3 ≤ i → ¬ i < 3 := fun h => by omega
  have n4 : 4 ≤ i → ¬ i < 4 := fun h => by omega
  have n6 : 6 ≤ i → ¬ i < 6 := fun h => by omega
  have n12 : 12 ≤ i → ¬ i < 12 := fun h => by omega
  have n64 : 64 ≤ i → ¬ i < 64 := fun h => by omega
  rcases h with ⟨a, b, c⟩ | ⟨a, b, c⟩ | ⟨a, b, c⟩ | ⟨a, c⟩ | ⟨a, b, c⟩ | ⟨a, b, c⟩ | a | ⟨a, b⟩
  · have : r = 23 ∨ r = 24 ∨ r = 25 := by omega
    rcases this with rfl | rfl | rfl <;> simp [rl, c]
  · have : r = 26 ∨ r = 27 ∨ r = 28 ∨ r = 29 := by omega
    rcases this with rfl | rfl | rfl | rfl <;> simp [rl, c]
  · have : r = 30 ∨ r = 31 ∨ r = 32 := by omega
    rcases this with rfl | rfl | rfl <;> simp [rl, c]
  · subst a; simp [rl, c]
  · have : r = 33 ∨ r = 34 ∨ r = 35 := by omega
    rcases this with rfl | rfl | rfl <;> simp [rl, c]
  · have : r = 36 ∨ r = 37 ∨ r = 38 := by omega
    rcases this with rfl | rfl | rfl <;> simp [rl, c]
  · subst a; simp [rl]
  · have : r = 39 ∨ r = 40 ∨ r = 41 ∨ r = 42 ∨ r = 43 ∨ r = 44 ∨ r = 45 ∨ r = 46 ∨ r = 47 ∨ r = 48 ∨ r = 49 := by omega
    rcases this with rfl | rfl | rfl | rfl | rfl | rfl | rfl | rfl | rfl | rfl | rfl <;> simp [rl]
theorem man_q (fu : Nat) (hf : 1000 ≤ fu) {P Z K B L M : S32} (v : S64) {e nx np nt nr : Nat} (h : TX P Z K B L M e nx np nt nr) : (∃ Z' B' K' M', f_X7_takeMan fu P Z B K = some (0, Z', B', K') ∧ f_X12_manLine fu v M = some (0, M') ∧ FT2 Z' M M') ∨ (∃ Z' B' K' M' nx', f_X7_takeMan fu P Z B K = some (1, Z', B', K') ∧ f_X12_manLine fu v M = some (1, M') ∧ TX P Z' K' B' L M' e nx' (np + 1) nt nr ∧ LF M M' ∧ nx ≤ nx' ∧ B' 0 0 = B 0 0) := by
  obtain ⟨hS, hB, hbi, -⟩ := id h
  obtain ⟨⟨hnp, hnt, hnr⟩, ⟨b1, m1⟩, ⟨b5, m5⟩, ⟨b10, m10⟩, hbp, hbt, hbr, ho⟩ := id hB
  unfold f_X7_takeMan f_X12_manLine f_X7_takeMan_J18
  rw [tx_let_q (B 0 1), b1, m1, if_neg (nI_pos (n := np) (by omega))]
  by_cases h6 : np = 6
  · obtain ⟨Z', M', c1, c2, c3⟩ := bl_q fu Z v hS.2.1 (LF.refl M) 2
    left
    rw [if_neg (show ¬ nI np < (6 : Int32) from nI_nlt (b := 6) (by omega) (by omega)), c1, tx_b2_q, tx_bz_0, if_pos (show nI np = (6 : Int32) by rw [h6]; rfl), c2, tx_b2_q, tx_bz_0]
    exact ⟨_, _, _, _, rfl, rfl, c3⟩
  have hlt : np < 6 := by omega
  rw [if_pos (show nI np < (6 : Int32) from nI_lt (b := 6) hlt (by omega)), if_neg (show ¬ nI np = (6 : Int32) from fun z => h6 ((nI_eq (b := 6) (by omega) (by omega)).mp z))]
  obtain ⟨K1, M1, n1, a1, a2, a3, a4, a5, a6, a7, -⟩ := adv_q fu hf v hS.1
  have x16 : M1 0 16 = nI np := (a6.p (by omega)).trans m1
  have l1 : LF M M1 := (LF.refl M).fm a6
  rw [a1, tx_b1_q, a2, tx_b1_q, x16]
  unfold f_X0_manNamed f_X0_placeOf_oX0r3 f_X12_newName_tX12r23 f_X12_seek_oX12r23 f_X7_isNewName f_X7_isNewName_J30
  have hsk := sk_3 fu (B := B) (M := M1) v hnp (fun p hp => by rw [a6.p (by omega)]; exact (hbp p hp).1) (K1 0 5) np 0 fu fu (by omega) (by omega) (by omega)
  rw [nI_0] at hsk
  rw [b1]
  by_cases zn : K1 0 4 = 3
  rotate_left
  · -- no name
    left
    have hr : ∃ x, f_X0_placeOf_oX0r3_L2 fu B fu (nI np) (K1 0 5) 0 = some x := by
      rcases hsk with ⟨p, -, h1, -⟩ | ⟨h1, -⟩
      · exact ⟨_, h1⟩
      · exact ⟨_, h1⟩
    obtain ⟨x, hx⟩ := hr
    obtain ⟨Z', M', c1, c2, c3⟩ := bl_q fu Z v a4 l1 1
    rw [hx, tx_b1_q, tx_b1_q, if_neg zn, if_neg (fun w => zn ((kn_q a5).2.2.1.mpr w)), c1, c2, tx_b2_q, tx_b2_q, tx_bz_0, tx_bz_0, tx_b2_q, tx_b2_q, if_pos rfl, if_pos rfl]
    exact ⟨_, _, _, _, rfl, rfl, c3⟩
  rcases hsk with ⟨p, hp, h1, h2⟩ | ⟨h1, h2⟩
  · left
    obtain ⟨Z', M', c1, c2, c3⟩ := bl_q fu Z v a4 l1 3
    rw [h1, tx_b1_q, tx_b1_q, if_pos zn, if_pos ((kn_q a5).2.2.1.mp zn), ← kn_nam a5 zn, h2, tx_b1_q, if_neg (m1_ne (by omega)), if_neg (nI_pos (n := p) (by omega)), c1, c2, tx_b2_q, tx_b2_q, tx_bz_0, if_pos rfl, tx_b2_q, tx_b2_q, if_pos rfl, if_pos rfl]
    exact ⟨_, _, _, _, rfl, rfl, c3⟩
  have e6 : (6 : Int32) + nI np = nI (6 + np) := nI_add 6 np
  have ck := fun k : Option (Int32 × S32) => tx_ck_q (j := 6 + np) (n := 12) (by omega) (by omega) k
  have dk := fun k : Option (Int32 × S32 × S32 × S32) => tx_ck_q (j := np) (n := 6) (by omega) (by omega) k
  rw [h1, tx_b1_q, tx_b1_q, if_pos zn, if_pos ((kn_q a5).2.2.1.mp zn), ← kn_nam a5 zn, h2, tx_b1_q, if_pos rfl, if_pos (show (-1 : Int32) < 0 by decide), e6, ck, nI_clamp (n := 6 + np) (by omega), tx_let_q (up2 M1 23 (6 + np) (K1 0 5)), tx_b2_q, if_neg one_ne, dk, nI_clamp (n := np) (by omega), tx_let_q (up2 B 3 np (K1 0 5))]
  have s1 : TK P K1 (up2 M1 23 (6 + np) (K1 0 5)) e n1 := a3.up _ (by omega)
  obtain ⟨K2, M2, n2, d1, d2, d3, d4, d5, d6, d7, -⟩ := adv_q fu hf v s1
  have l2 : LF M M2 := (l1.up _ (hi_u (by omega))).fm d6
  rw [d1, d2, tx_b1_q, tx_b1_q, tx_b2_q, if_neg one_ne]
  -- the purse
  rcases num2_q fu hf (Z := Z) v (lo := 0) (hi := 999) ⟨d3, d4, d5⟩ (by omega) (by omega) l2 with ⟨Z', M', c1, c2, c3⟩ | ⟨a, K3, M3, n3, r1, r2, c1, c2, c3, c4, c5⟩
  · left
    have c1' : f_X7_takeNumber fu P Z K2 0 999 = some (0, Z', K2) := c1
    have c2' : f_X12_number fu v M2 0 999 = some (0, M') := c2
    rw [c1', c2', tx_b3_q, tx_b2_q, if_pos rfl, if_pos rfl]
    exact ⟨_, _, _, _, rfl, rfl, c3⟩
  have c1' : f_X7_takeNumber fu P Z K2 0 999 = some (1, up2 Z 0 5 (nI a), K3) := c1
  have c2' : f_X12_number fu v M2 0 999 = some (1, M3) := c2
  have l3 : LF M M3 := (l2.up (nI a) (show rl 0 11 = false by decide)).fm c5
  have y16 : M3 0 16 = nI np := by rw [c5.p (by omega), up2_i _ _ _ (by decide), d6.p (by omega), up2_n _ _ _ (by decide)]; exact x16
  have y11 : M3 0 11 = nI a := by rw [c5.p (by omega), up2_e]
  rw [c1', c2', tx_b3_q, tx_b2_q, if_neg one_ne, if_neg one_ne, dk, tx_let_q (up2 (up2 B 3 np (K1 0 5)) 4 np ((up2 Z 0 5 (nI a)) 0 5)), up2_e, y16, e6, ck, nI_clamp (n := 6 + np) (by omega), y11, tx_let_q (up2 M3 24 (6 + np) (nI a))]
  have s3 := c3.up (r := 24) (i := 6 + np) (nI a) (by omega)
  rcases num2_q fu hf (Z := up2 Z 0 5 (nI a)) v (lo := 0) (hi := 9) s3 (by omega) (by omega) (l3.up (nI a) (hi_u (by omega))) with ⟨Z', M', g1, g2, g3⟩ | ⟨b, K4, M4, n4, t1, t2, g1, g2, g3, g4, g5⟩
  · left
    have g1' : f_X7_takeNumber fu P (up2 Z 0 5 (nI a)) K3 0 9 = some (0, Z', K3) := g1
    have g2' : f_X12_number fu v (up2 M3 24 (6 + np) (nI a)) 0 9 = some (0, M') := g2
    rw [g1', g2', tx_b3_q, tx_b2_q, if_pos rfl, if_pos rfl]
    exact ⟨_, _, _, _, rfl, rfl, g3⟩
  right
  have g1' : f_X7_takeNumber fu P (up2 Z 0 5 (nI a)) K3 0 9 = some (1, up2 (up2 Z 0 5 (nI a)) 0 5 (nI b), K4) := g1
  have g2' : f_X12_number fu v (up2 M3 24 (6 + np) (nI a)) 0 9 = some (1, M4) := g2
  have w16 : M4 0 16 = nI np := by rw [g5.p (by omega), up2_i _ _ _ (by decide), up2_n _ _ _ (by decide)]; exact y16
  have w11 : M4 0 11 = nI b := by rw [g5.p (by omega), up2_e]
  have v16 : (up2 M4 25 (6 + np) (nI b)) 0 16 = nI np := by rw [up2_n _ _ _ (by decide)]; exact w16
  have u1 : (up2 (up2 (up2 B 3 np (K1 0 5)) 4 np (nI a)) 5 np (nI b)) 0 1 = nI np := by rw [up2_n _ _ _ (by decide), up2_n _ _ _ (by decide), up2_n _ _ _ (by decide)]; exact b1
  rw [g1', g2', tx_b3_q, tx_b2_q, if_neg one_ne, if_neg one_ne, dk, up2_e, tx_let_q (up2 (up2 (up2 B 3 np (K1 0 5)) 4 np (nI a)) 5 np (nI b)), u1, nI_1, tx_let_q, w16, e6, ck, nI_clamp (n := 6 + np) (by omega), w11, tx_let_q (up2 M4 25 (6 + np) (nI b)), v16, nI_1, tx_let_q]
  obtain ⟨Mz, qz⟩ : ∃ Mz, Mz = up2 (up2 M4 25 (6 + np) (nI b)) 0 16 (nI (np + 1)) := ⟨_, rfl⟩
  obtain ⟨Bz, qb⟩ : ∃ Bz, Bz = up2 (up2 (up2 (up2 B 3 np (K1 0 5)) 4 np (nI a)) 5 np (nI b)) 0 1 (nI (np + 1)) := ⟨_, rfl⟩
  rw [← qz, ← qb]
  have sz : ST P K4 Mz e n4 := by rw [qz]; exact (g3.up _ (by omega)).up _ (by omega)
  -- what has changed
  have z0 : ∀ r i, ¬ (r = 0 ∧ (7 ≤ i ∧ i ≤ 11 ∨ i = 16)) → ¬ ((r = 23 ∨ r = 24 ∨ r = 25) ∧ i = 6 + np) → Mz r i = M r i := by
    intro r i q1 q2
    rw [qz, up2_a, if_neg (by omega), up2_a, if_neg (by omega), g5.p (by omega), up2_a, if_neg (by omega), up2_a, if_neg (by omega), c5.p (by omega), up2_a, if_neg (by omega), d6.p (by omega), up2_a, if_neg (by omega), a6.p (by omega)]
  have z23 : Mz 23 (6 + np) = K1 0 5 := by
    rw [qz, up2_n _ _ _ (by decide), up2_n _ _ _ (by decide), g5.p (by omega), up2_n _ _ _ (by decide), up2_n _ _ _ (by decide), c5.p (by omega), up2_n _ _ _ (by decide), d6.p (by omega), up2_e]
  have z24 : Mz 24 (6 + np) = nI a := by
    rw [qz, up2_n _ _ _ (by decide), up2_n _ _ _ (by decide), g5.p (by omega), up2_n _ _ _ (by decide), up2_e]
  have z25 : Mz 25 (6 + np) = nI b := by
    rw [qz, up2_n _ _ _ (by decide), up2_e]
  have z16 : Mz 0 16 = nI (np + 1) := by rw [qz, up2_e]
  have y0 : ∀ r i, ¬ (r = 0 ∧ i = 1) → ¬ ((r = 3 ∨ r = 4 ∨ r = 5) ∧ i = np) → Bz r i = B r i := by
    intro r i q1 q2
    rw [qb, up2_a, if_neg (by omega), up2_a, if_neg (by omega), up2_a, if_neg (by omega), up2_a, if_neg (by omega)]
  have y3 : Bz 3 np = K1 0 5 := by rw [qb, up2_n _ _ _ (by decide), up2_n _ _ _ (by decide), up2_n _ _ _ (by decide), up2_e]
  have y4 : Bz 4 np = nI a := by rw [qb, up2_n _ _ _ (by decide), up2_n _ _ _ (by decide), up2_e]
  have y5 : Bz 5 np = nI b := by rw [qb, up2_n _ _ _ (by decide), up2_e]
  have y1 : Bz 0 1 = nI (np + 1) := by rw [qb, up2_e]
  refine ⟨_, _, _, _, n4, rfl, rfl, TXc h sz ⟨⟨by omega, hnt, hnr⟩, ⟨y1, z16⟩, ⟨?_, ?_⟩, ⟨?_, ?_⟩, fun p hp => ?_, fun t ht => ?_, fun r hr => ?_, ?_⟩ ⟨fun p hp => ?_, fun t ht => ?_, fun r hr => ?_, ?_⟩ (fun r i hr => z0 r i (by omega) (by omega)) (fun i hi => z0 0 i (by omega) (by omega)) (fun i hi => by rw [up2_i _ _ _ (by omega), up2_i _ _ _ (by omega)]), ?_, by omega, y0 0 0 (by omega) (by omega)⟩
  · rw [y0 0 5 (by omega) (by omega)]; exact b5
  · rw [z0 0 17 (by omega) (by omega)]; exact m5
  · rw [y0 0 10 (by omega) (by omega)]; exact b10
  · rw [z0 0 18 (by omega) (by omega)]; exact m10
  · by_cases ep : p = np
    · subst ep
      rw [y3, y4, y5, z23, z24, z25]
      exact ⟨rfl, rfl, rfl⟩
    · rw [y0 3 p (by omega) (by omega), y0 4 p (by omega) (by omega), y0 5 p (by omega) (by omega), z0 23 _ (by omega) (by omega), z0 24 _ (by omega) (by omega), z0 25 _ (by omega) (by omega)]
      exact hbp p (by omega)
  · rw [y0 7 t (by omega) (by omega), y0 8 t (by omega) (by omega), y0 9 t (by omega) (by omega), y0 10 t (by omega) (by omega), z0 26 _ (by omega) (by omega), z0 27 _ (by omega) (by omega), z0 28 _ (by omega) (by omega), z0 29 _ (by omega) (by omega)]
    exact hbt t ht
  · rw [y0 12 r (by omega) (by omega), y0 13 r (by omega) (by omega), y0 14 r (by omega) (by omega), z0 30 _ (by omega) (by omega), z0 31 _ (by omega) (by omega), z0 32 _ (by omega) (by omega)]
    exact hbr r hr
  · rw [y0 0 14 (by omega) (by omega), y0 0 15 (by omega) (by omega), y0 0 16 (by omega) (by omega), z0 22 3 (by omega) (by omega), z0 22 4 (by omega) (by omega), z0 22 5 (by omega) (by omega)]
    exact ho
  · by_cases ep : p = np
    · subst ep
      rw [y4, y5]
      exact ⟨⟨a, r2, rfl⟩, ⟨b, t2, rfl⟩⟩
    · rw [y0 4 p (by omega) (by omega), y0 5 p (by omega) (by omega)]
      exact hbi.1 p (by omega)
  · rw [y0 7 t (by omega) (by omega), y0 8 t (by omega) (by omega), y0 9 t (by omega) (by omega), y0 10 t (by omega) (by omega)]
    obtain ⟨⟨x, hx, ex⟩, q2, q3, q4⟩ := hbi.2.1 t ht
    exact ⟨⟨x, by omega, ex⟩, q2, q3, q4⟩
  · rw [y0 13 r (by omega) (by omega), y0 14 r (by omega) (by omega)]
    exact hbi.2.2.1 r hr
  · rw [y0 0 14 (by omega) (by omega), y0 0 15 (by omega) (by omega), y0 0 16 (by omega) (by omega)]
    exact hbi.2.2.2
  · intro r i hrl hri
    refine z0 r i (fun w => ?_) (fun w => ?_)
    · obtain ⟨rfl, w⟩ := w
      have : i = 7 ∨ i = 8 ∨ i = 9 ∨ i = 10 ∨ i = 11 ∨ i = 16 := by omega
      rcases this with rfl | rfl | rfl | rfl | rfl | rfl <;> exact absurd hrl (by decide)
    · rw [hi_u (by omega)] at hrl
      cases hrl
