/-! a thought's line; what may be told once -/
theorem tho_q (fu : Nat) (hf : 1000 ≤ fu) {P Z K B L M : S32} (v : S64) {e nx np nt nr : Nat} (h : TX P Z K B L M e nx np nt nr) : (∃ Z' B' K' M', f_X7_takeThought fu P Z B K = some (0, Z', B', K') ∧ f_X12_thoughtLine fu v M = some (0, M') ∧ FT2 Z' M M') ∨ (∃ Z' B' K' M' nx', f_X7_takeThought fu P Z B K = some (1, Z', B', K') ∧ f_X12_thoughtLine fu v M = some (1, M') ∧ TX P Z' K' B' L M' e nx' np (nt + 1) nr ∧ LF M M' ∧ nx ≤ nx' ∧ B' 0 0 = B 0 0) := by
  obtain ⟨hS, hB, hbi, -⟩ := id h
  obtain ⟨⟨hnp, hnt, hnr⟩, ⟨b1, m1⟩, ⟨b5, m5⟩, ⟨b10, m10⟩, hbp, hbt, hbr, ho⟩ := id hB
  unfold f_X7_takeThought f_X12_thoughtLine f_X7_takeThought_J18
  rw [tx_let_q (B 0 5), b5, m5, if_neg (nI_pos (n := nt) (by omega))]
  by_cases h6 : nt = 12
  · obtain ⟨Z', M', c1, c2, c3⟩ := bl_q fu Z v hS.2.1 (LF.refl M) 2
    left
    rw [if_neg (show ¬ nI nt < (12 : Int32) from nI_nlt (b := 12) (by omega) (by omega)), c1, tx_b2_q, tx_bz_0, if_pos (show nI nt = (12 : Int32) by rw [h6]; rfl), c2, tx_b2_q, tx_bz_0]
    exact ⟨_, _, _, _, rfl, rfl, c3⟩
  have hlt : nt < 12 := by omega
  rw [if_pos (show nI nt < (12 : Int32) from nI_lt (b := 12) hlt (by omega)), if_neg (show ¬ nI nt = (12 : Int32) from fun z => h6 ((nI_eq (b := 12) (by omega) (by omega)).mp z))]
  obtain ⟨K1, M1, n1, a1, a2, a3, a4, a5, a6, a7, -⟩ := adv_q fu hf v hS.1
  have x16 : M1 0 16 = nI np := (a6.p (by omega)).trans m1
  have x17 : M1 0 17 = nI nt := (a6.p (by omega)).trans m5
  have l1 : LF M M1 := (LF.refl M).fm a6
  rw [a1, tx_b1_q, a2, tx_b1_q, x16]
  unfold f_X0_manNamed f_X0_placeOf_oX0r3 f_X12_seek_oX12r23
  have hsk := sk_3 fu (B := B) (M := M1) v hnp (fun p hp => by rw [a6.p (by omega)]; exact (hbp p hp).1) (K1 0 5) np 0 fu fu (by omega) (by omega) (by omega)
  rw [nI_0] at hsk
  rw [b1]
  by_cases zn : K1 0 4 = 3
  rotate_left
  · left
    obtain ⟨Z', M', c1, c2, c3⟩ := bl_q fu Z v a4 l1 1
    rw [if_neg zn, if_neg (fun w => zn ((kn_q a5).2.2.1.mpr w)), c1, c2, tx_b2_q, tx_b2_q, tx_bz_0, tx_bz_0]
    exact ⟨_, _, _, _, rfl, rfl, c3⟩
  rw [if_pos zn, if_pos ((kn_q a5).2.2.1.mp zn), ← kn_nam a5 zn]
  rcases hsk with ⟨p, hp, h1, h2⟩ | ⟨h1, h2⟩
  rotate_left
  · left
    obtain ⟨Z', M', c1, c2, c3⟩ := bl_q fu Z v a4 l1 4
    rw [h1, h2, tx_b1_q, tx_b1_q, tx_b1_q, if_pos rfl, if_neg (show ¬ (0 : Int32) ≤ -1 by decide), c1, c2, tx_b2_q, tx_b2_q, tx_bz_0, tx_bz_0]
    exact ⟨_, _, _, _, rfl, rfl, c3⟩
  have e6 : (12 : Int32) + nI nt = nI (12 + nt) := nI_add 12 nt
  have ck := fun k : Option (Int32 × S32) => tx_ck_q (j := 12 + nt) (n := 24) (by omega) (by omega) k
  have dk := fun k : Option (Int32 × S32 × S32 × S32) => tx_ck_q (j := nt) (n := 12) (by omega) (by omega) k
  obtain ⟨K2, M2, n2, d1, d2, d3, d4, d5, d6, d7, -⟩ := adv_q fu hf v a3
  have l2 : LF M M2 := l1.fm d6
  have w17 : M2 0 17 = nI nt := (d6.p (by omega)).trans x17
  rw [h1, h2, tx_b1_q, tx_b1_q, tx_b1_q, if_neg (m1_ne (by omega)), if_pos (nI_pos' (n := p) (by omega)), dk, nI_clamp (n := nt) (by omega), tx_let_q (up2 B 7 nt (nI p)), d1, d2, tx_b1_q, tx_b1_q, w17, e6, tx_let_q (nI (12 + nt)), ck, nI_clamp (n := 12 + nt) (by omega), tx_let_q (up2 M2 26 (12 + nt) (nI p))]
  have s2 : ST P K2 (up2 M2 26 (12 + nt) (nI p)) e n2 := (show ST P K2 M2 e n2 from ⟨d3, d4, d5⟩).up _ (by omega)
  have l2' : LF M (up2 M2 26 (12 + nt) (nI p)) := l2.up _ (hi_u (by omega))
  rcases num2_q fu hf (Z := Z) v (lo := 1) (hi := 99) s2 (by omega) (by omega) l2' with ⟨Z', M', c1, c2, c3⟩ | ⟨a, K3, M3, n3, ra1, ra2, c1a, c2a, c3a, c4a, c5a⟩
  · left
    have c1' : f_X7_takeNumber fu P Z K2 1 99 = some (0, Z', K2) := c1
    have c2' : f_X12_number fu v (up2 M2 26 (12 + nt) (nI p)) 1 99 = some (0, M') := c2
    rw [c1', c2', tx_b3_q, tx_b2_q, if_pos rfl, if_pos rfl]
    exact ⟨_, _, _, _, rfl, rfl, c3⟩
  have c1a' : f_X7_takeNumber fu P Z K2 1 99 = some (1, (up2 Z 0 5 (nI a)), K3) := c1a
  have c2a' : f_X12_number fu v (up2 M2 26 (12 + nt) (nI p)) 1 99 = some (1, M3) := c2a
  have y11a : M3 0 11 = nI a := by rw [c5a.p (by omega), up2_e]
  rw [c1a', c2a', tx_b3_q, tx_b2_q, if_neg one_ne, if_neg one_ne, dk, up2_e, tx_let_q (up2 (up2 B 7 nt (nI p)) 8 nt (nI a)), ck, y11a, tx_let_q (up2 M3 27 (12 + nt) (nI a))]
  have s3 : ST P K3 (up2 M3 27 (12 + nt) (nI a)) e n3 := c3a.up _ (by omega)
  have l3 : LF M (up2 M3 27 (12 + nt) (nI a)) := ((LF.up l2' (nI a) (show rl 0 11 = false by decide)).fm c5a).up _ (hi_u (by omega))
  rcases num2_q fu hf (Z := (up2 Z 0 5 (nI a))) v (lo := 0) (hi := 99) s3 (by omega) (by omega) l3 with ⟨Z', M', c1, c2, c3⟩ | ⟨b, K4, M4, n4, rb1, rb2, c1b, c2b, c3b, c4b, c5b⟩
  · left
    have c1' : f_X7_takeNumber fu P (up2 Z 0 5 (nI a)) K3 0 99 = some (0, Z', K3) := c1
    have c2' : f_X12_number fu v (up2 M3 27 (12 + nt) (nI a)) 0 99 = some (0, M') := c2
    rw [c1', c2', tx_b3_q, tx_b2_q, if_pos rfl, if_pos rfl]
    exact ⟨_, _, _, _, rfl, rfl, c3⟩
  have c1b' : f_X7_takeNumber fu P (up2 Z 0 5 (nI a)) K3 0 99 = some (1, (up2 (up2 Z 0 5 (nI a)) 0 5 (nI b)), K4) := c1b
  have c2b' : f_X12_number fu v (up2 M3 27 (12 + nt) (nI a)) 0 99 = some (1, M4) := c2b
  have y11b : M4 0 11 = nI b := by rw [c5b.p (by omega), up2_e]
  rw [c1b', c2b', tx_b3_q, tx_b2_q, if_neg one_ne, if_neg one_ne, dk, up2_e, tx_let_q (up2 (up2 (up2 B 7 nt (nI p)) 8 nt (nI a)) 9 nt (nI b)), ck, y11b, tx_let_q (up2 M4 28 (12 + nt) (nI b))]
  have s4 : ST P K4 (up2 M4 28 (12 + nt) (nI b)) e n4 := c3b.up _ (by omega)
  have l4 : LF M (up2 M4 28 (12 + nt) (nI b)) := ((LF.up l3 (nI b) (show rl 0 11 = false by decide)).fm c5b).up _ (hi_u (by omega))
  rcases num2_q fu hf (Z := (up2 (up2 Z 0 5 (nI a)) 0 5 (nI b))) v (lo := 0) (hi := 3) s4 (by omega) (by omega) l4 with ⟨Z', M', c1, c2, c3⟩ | ⟨c, K5, M5, n5, rc1, rc2, c1c, c2c, c3c, c4c, c5c⟩
  · left
    have c1' : f_X7_takeNumber fu P (up2 (up2 Z 0 5 (nI a)) 0 5 (nI b)) K4 0 3 = some (0, Z', K4) := c1
    have c2' : f_X12_number fu v (up2 M4 28 (12 + nt) (nI b)) 0 3 = some (0, M') := c2
    rw [c1', c2', tx_b3_q, tx_b2_q, if_pos rfl, if_pos rfl]
    exact ⟨_, _, _, _, rfl, rfl, c3⟩
  have c1c' : f_X7_takeNumber fu P (up2 (up2 Z 0 5 (nI a)) 0 5 (nI b)) K4 0 3 = some (1, (up2 (up2 (up2 Z 0 5 (nI a)) 0 5 (nI b)) 0 5 (nI c)), K5) := c1c
  have c2c' : f_X12_number fu v (up2 M4 28 (12 + nt) (nI b)) 0 3 = some (1, M5) := c2c
  have y11c : M5 0 11 = nI c := by rw [c5c.p (by omega), up2_e]
  rw [c1c', c2c', tx_b3_q, tx_b2_q, if_neg one_ne, if_neg one_ne, dk, up2_e, tx_let_q (up2 (up2 (up2 (up2 B 7 nt (nI p)) 8 nt (nI a)) 9 nt (nI b)) 10 nt (nI c)), ck, y11c, tx_let_q (up2 M5 29 (12 + nt) (nI c))]
  have s5 : ST P K5 (up2 M5 29 (12 + nt) (nI c)) e n5 := c3c.up _ (by omega)
  have l5 : LF M (up2 M5 29 (12 + nt) (nI c)) := ((LF.up l4 (nI c) (show rl 0 11 = false by decide)).fm c5c).up _ (hi_u (by omega))
  right
  have u5 : (up2 (up2 (up2 (up2 B 7 nt (nI p)) 8 nt (nI a)) 9 nt (nI b)) 10 nt (nI c)) 0 5 = nI nt := by rw [up2_n _ _ _ (by decide), up2_n _ _ _ (by decide), up2_n _ _ _ (by decide), up2_n _ _ _ (by decide)]; exact b5
  have v17 : (up2 M5 29 (12 + nt) (nI c)) 0 17 = nI nt := by
    rw [up2_n _ _ _ (by decide), c5c.p (by omega), up2_i _ _ _ (by decide), up2_n _ _ _ (by decide), c5b.p (by omega), up2_i _ _ _ (by decide), up2_n _ _ _ (by decide), c5a.p (by omega), up2_i _ _ _ (by decide), up2_n _ _ _ (by decide)]
    exact w17
  rw [u5, v17, nI_1, tx_let_q, tx_let_q]
  obtain ⟨Mz, qz⟩ : ∃ Mz, Mz = up2 (up2 M5 29 (12 + nt) (nI c)) 0 17 (nI (nt + 1)) := ⟨_, rfl⟩
  obtain ⟨Bz, qb⟩ : ∃ Bz, Bz = up2 (up2 (up2 (up2 (up2 B 7 nt (nI p)) 8 nt (nI a)) 9 nt (nI b)) 10 nt (nI c)) 0 5 (nI (nt + 1)) := ⟨_, rfl⟩
  rw [← qz, ← qb]
  have sz : ST P K5 Mz e n5 := by rw [qz]; exact s5.up _ (by omega)
  have z0 : ∀ r i, ¬ (r = 0 ∧ (7 ≤ i ∧ i ≤ 11 ∨ i = 17)) → ¬ ((26 ≤ r ∧ r ≤ 29) ∧ i = 12 + nt) → Mz r i = M r i := by
    intro r i q1 q2
    rw [qz, up2_a, if_neg (by omega), up2_a, if_neg (by omega), c5c.p (by omega), up2_a, if_neg (by omega), up2_a, if_neg (by omega), c5b.p (by omega), up2_a, if_neg (by omega), up2_a, if_neg (by omega), c5a.p (by omega), up2_a, if_neg (by omega), up2_a, if_neg (by omega), d6.p (by omega), a6.p (by omega)]
  have z26 : Mz 26 (12 + nt) = nI p := by
    rw [qz, up2_n _ _ _ (by decide), up2_n _ _ _ (by decide), c5c.p (by omega), up2_n _ _ _ (by decide), up2_n _ _ _ (by decide), c5b.p (by omega), up2_n _ _ _ (by decide), up2_n _ _ _ (by decide), c5a.p (by omega), up2_n _ _ _ (by decide), up2_e]
  have z27 : Mz 27 (12 + nt) = nI a := by
    rw [qz, up2_n _ _ _ (by decide), up2_n _ _ _ (by decide), c5c.p (by omega), up2_n _ _ _ (by decide), up2_n _ _ _ (by decide), c5b.p (by omega), up2_n _ _ _ (by decide), up2_e]
  have z28 : Mz 28 (12 + nt) = nI b := by
    rw [qz, up2_n _ _ _ (by decide), up2_n _ _ _ (by decide), c5c.p (by omega), up2_n _ _ _ (by decide), up2_e]
  have z29 : Mz 29 (12 + nt) = nI c := by
    rw [qz, up2_n _ _ _ (by decide), up2_e]
  have z17 : Mz 0 17 = nI (nt + 1) := by rw [qz, up2_e]
  have y0 : ∀ r i, ¬ (r = 0 ∧ i = 5) → ¬ ((7 ≤ r ∧ r ≤ 10) ∧ i = nt) → Bz r i = B r i := by
    intro r i q1 q2
    rw [qb, up2_a, if_neg (by omega), up2_a, if_neg (by omega), up2_a, if_neg (by omega), up2_a, if_neg (by omega), up2_a, if_neg (by omega)]
  have y7 : Bz 7 nt = nI p := by rw [qb, up2_n _ _ _ (by decide), up2_n _ _ _ (by decide), up2_n _ _ _ (by decide), up2_n _ _ _ (by decide), up2_e]
  have y8 : Bz 8 nt = nI a := by rw [qb, up2_n _ _ _ (by decide), up2_n _ _ _ (by decide), up2_n _ _ _ (by decide), up2_e]
  have y9 : Bz 9 nt = nI b := by rw [qb, up2_n _ _ _ (by decide), up2_n _ _ _ (by decide), up2_e]
  have y10 : Bz 10 nt = nI c := by rw [qb, up2_n _ _ _ (by decide), up2_e]
  have y5 : Bz 0 5 = nI (nt + 1) := by rw [qb, up2_e]
  refine ⟨_, _, _, _, n5, rfl, rfl, TXc h sz ⟨⟨hnp, by omega, hnr⟩, ⟨?_, ?_⟩, ⟨y5, z17⟩, ⟨?_, ?_⟩, fun q hq => ?_, fun t ht => ?_, fun r hr => ?_, ?_⟩ ⟨fun q hq => ?_, fun t ht => ?_, fun r hr => ?_, ?_⟩ (fun r i hr => z0 r i (by omega) (by omega)) (fun i hi => z0 0 i (by omega) (by omega)) (fun i hi => by rw [up2_i _ _ _ (by omega), up2_i _ _ _ (by omega), up2_i _ _ _ (by omega)]), ?_, by omega, y0 0 0 (by omega) (by omega)⟩
  · rw [y0 0 1 (by omega) (by omega)]; exact b1
  · rw [z0 0 16 (by omega) (by omega)]; exact m1
  · rw [y0 0 10 (by omega) (by omega)]; exact b10
  · rw [z0 0 18 (by omega) (by omega)]; exact m10
  · rw [y0 3 q (by omega) (by omega), y0 4 q (by omega) (by omega), y0 5 q (by omega) (by omega), z0 23 _ (by omega) (by omega), z0 24 _ (by omega) (by omega), z0 25 _ (by omega) (by omega)]
    exact hbp q hq
  · by_cases et : t = nt
    · subst et
      rw [y7, y8, y9, y10, z26, z27, z28, z29]
      exact ⟨rfl, rfl, rfl, rfl⟩
    · rw [y0 7 t (by omega) (by omega), y0 8 t (by omega) (by omega), y0 9 t (by omega) (by omega), y0 10 t (by omega) (by omega), z0 26 _ (by omega) (by omega), z0 27 _ (by omega) (by omega), z0 28 _ (by omega) (by omega), z0 29 _ (by omega) (by omega)]
      exact hbt t (by omega)
  · rw [y0 12 r (by omega) (by omega), y0 13 r (by omega) (by omega), y0 14 r (by omega) (by omega), z0 30 _ (by omega) (by omega), z0 31 _ (by omega) (by omega), z0 32 _ (by omega) (by omega)]
    exact hbr r hr
  · rw [y0 0 14 (by omega) (by omega), y0 0 15 (by omega) (by omega), y0 0 16 (by omega) (by omega), z0 22 3 (by omega) (by omega), z0 22 4 (by omega) (by omega), z0 22 5 (by omega) (by omega)]
    exact ho
  · rw [y0 4 q (by omega) (by omega), y0 5 q (by omega) (by omega)]
    exact hbi.1 q hq
  · by_cases et : t = nt
    · subst et
      rw [y7, y8, y9, y10]
      exact ⟨⟨p, hp, rfl⟩, ⟨a, ra1, ra2, rfl⟩, ⟨b, rb2, rfl⟩, ⟨c, rc2, rfl⟩⟩
    · rw [y0 7 t (by omega) (by omega), y0 8 t (by omega) (by omega), y0 9 t (by omega) (by omega), y0 10 t (by omega) (by omega)]
      exact hbi.2.1 t (by omega)
  · rw [y0 13 r (by omega) (by omega), y0 14 r (by omega) (by omega)]
    exact hbi.2.2.1 r hr
  · rw [y0 0 14 (by omega) (by omega), y0 0 15 (by omega) (by omega), y0 0 16 (by omega) (by omega)]
    exact hbi.2.2.2
  · intro r i hrl hri
    refine z0 r i (fun w => ?_) (fun w => ?_)
    · obtain ⟨rfl, w⟩ := w
      have : i = 7 ∨ i = 8 ∨ i = 9 ∨ i = 10 ∨ i = 11 ∨ i = 17 := by omega
      rcases this with rfl | rfl | rfl | rfl | rfl | rfl <;> exact absurd hrl (by decide)
    · rw [hi_u (by omega)] at hrl
      cases hrl
theorem on0_q (fu : Nat) (hf : 1000 ≤ fu) {P Z K B L M : S32} (v : S64) {e nx np nt nr : Nat} (h : TX P Z K B L M e nx np nt nr) (hk5 : K 0 5 = nI 3) : (∃ Z' B' K' M', f_X7_takeRate fu P Z K B = some (0, Z', K', B') ∧ f_X12_onceLine fu v M 0 0 100 = some (0, M') ∧ FT2 Z' M M') ∨ (∃ Z' B' K' M' nx', f_X7_takeRate fu P Z K B = some (1, Z', K', B') ∧ f_X12_onceLine fu v M 0 0 100 = some (1, M') ∧ TX P Z' K' B' L M' e nx' np nt nr ∧ LF M M' ∧ nx ≤ nx' ∧ B' 0 0 = B 0 0) := by
  obtain ⟨hS, hB, hbi, hlw, ⟨b0, b1, b2, hb0, hb1, hb2, z6, m0, m1, m2⟩, h43, z2, z3, m4, m5⟩ := id h
  obtain ⟨hn3, hp1, hp5, hp10, hbp, hbt, hbr, ho1, ho2, ho3⟩ := id hB
  have bit : (1 : Int32) <<< (K 0 5 &&& 31) = nI 8 := by rw [hk5]; decide
  have ck3 : ∀ k : Option (Int32 × S32), tx_ck (0 : Int32) 3 k = k := fun _ => rfl
  have ck6 : ∀ k : Option (Int32 × S32), tx_ck ((3 : Int32) + 0) 6 k = k := fun _ => rfl
  have cl : (0 : Int32).toNatClampNeg = 0 := rfl
  have cl6 : ((3 : Int32) + 0).toNatClampNeg = 3 + 0 := rfl
  unfold f_X7_takeRate f_X7_takeOnce f_X12_onceLine
  rw [bit, tx_let_q (nI 8), ck3, cl, m0, z6]
  have t1 : b0 = 0 → nI (8 * b0 + 16 * b1 + 32 * b2) &&& nI 8 = 0 ∧ nI (8 * b0 + 16 * b1 + 32 * b2) ||| nI 8 = nI (8 * b0 + 16 * b1 + 32 * b2 + 8) := by
    intro w
    have q0 : b0 = 0 ∨ b0 = 1 := by omega
    have q1 : b1 = 0 ∨ b1 = 1 := by omega
    have q2 : b2 = 0 ∨ b2 = 1 := by omega
    rcases q0 with rfl | rfl <;> rcases q1 with rfl | rfl <;> rcases q2 with rfl | rfl <;> first | exact absurd w (by decide) | exact ⟨by decide, by decide⟩
  have t2 : b0 = 1 → ¬ nI (8 * b0 + 16 * b1 + 32 * b2) &&& nI 8 = 0 := by
    intro w
    have q0 : b0 = 0 ∨ b0 = 1 := by omega
    have q1 : b1 = 0 ∨ b1 = 1 := by omega
    have q2 : b2 = 0 ∨ b2 = 1 := by omega
    rcases q0 with rfl | rfl <;> rcases q1 with rfl | rfl <;> rcases q2 with rfl | rfl <;> first | exact absurd w (by decide) | decide
  by_cases w : b0 = 0
  rotate_left
  · left
    have w1 : b0 = 1 := by omega
    obtain ⟨Z', M', c1, c2, c3⟩ := bl_q fu Z v hS.2.1 (LF.refl M) 3
    rw [if_neg (t2 w1), w1, if_neg (show ¬ nI 1 = (0 : Int32) by decide), c1, c2, tx_b2_q, tx_b2_q, tx_bz_0, tx_bz_0, tx_b3_q, if_pos rfl]
    exact ⟨_, _, _, _, rfl, rfl, c3⟩
  obtain ⟨t3, t4⟩ := t1 w
  have s1 : TK P K (up2 M 21 0 (1 &&& 1)) e nx := hS.1.up _ (by omega)
  obtain ⟨K1, M1, n1, a1, a2, a3, a4, a5, a6, a7, -⟩ := adv_q fu hf v s1
  have l1 : LF M M1 := ((LF.refl M).up _ (hi_u (by omega))).fm a6
  rw [if_pos t3, t4, tx_let_q (up2 Z 0 6 (nI (8 * b0 + 16 * b1 + 32 * b2 + 8))), a1, tx_b1_q, tx_b3_q, if_neg one_ne, if_pos (show nI b0 = (0 : Int32) by rw [w]; rfl), ck3, tx_let_q (up2 M 21 0 (1 &&& 1)), a2, tx_b1_q]
  rcases num2_q fu hf (Z := up2 Z 0 6 (nI (8 * b0 + 16 * b1 + 32 * b2 + 8))) v (lo := 0) (hi := 100) ⟨a3, a4, a5⟩ (by omega) (by omega) l1 with ⟨Z', M', c1, c2, c3⟩ | ⟨a, K2, M2, n2, r1, r2, c1, c2, c3, c4, c5⟩
  · left
    have c1' : f_X7_takeNumber fu P (up2 Z 0 6 (nI (8 * b0 + 16 * b1 + 32 * b2 + 8))) K1 0 100 = some (0, Z', K1) := c1
    have c2' : f_X12_number fu v M1 0 100 = some (0, M') := c2
    rw [c1', c2', tx_b3_q, tx_b2_q, if_pos rfl, if_pos rfl]
    exact ⟨_, _, _, _, rfl, rfl, c3⟩
  right
  have c1' : f_X7_takeNumber fu P (up2 Z 0 6 (nI (8 * b0 + 16 * b1 + 32 * b2 + 8))) K1 0 100 = some (1, up2 (up2 Z 0 6 (nI (8 * b0 + 16 * b1 + 32 * b2 + 8))) 0 5 (nI a), K2) := c1
  have c2' : f_X12_number fu v M1 0 100 = some (1, M2) := c2
  have y11 : M2 0 11 = nI a := by rw [c5.p (by omega), up2_e]
  rw [c1', c2', tx_b3_q, tx_b2_q, if_neg one_ne, if_neg one_ne, up2_e, tx_let_q (up2 B 0 14 (nI a)), ck6, cl6, y11, tx_let_q]
  have z0 : ∀ r i, ¬ (r = 0 ∧ (7 ≤ i ∧ i ≤ 11)) → ¬ (r = 21 ∧ i = 0) → ¬ (r = 22 ∧ i = 3 + 0) → (up2 M2 22 (3 + 0) (nI a)) r i = M r i := by
    intro r i q1 q2 q3
    rw [up2_a, if_neg (by omega), c5.p (by omega), up2_a, if_neg (by omega), a6.p (by omega), up2_a, if_neg (by omega)]
  have yB : ∀ r i, r ≠ 0 → (up2 B 0 14 (nI a)) r i = B r i := fun r i hr => by rw [up2_n _ _ _ hr]
  have z21 : (up2 M2 22 (3 + 0) (nI a)) 21 0 = 1 := by
    rw [up2_n _ _ _ (by decide), c5.p (by omega), up2_n _ _ _ (by decide), a6.p (by omega), up2_e]
    rfl
  refine ⟨_, _, _, _, n2, rfl, rfl, ⟨c3.up _ (by omega), ⟨hn3, ?_, ?_, ?_, fun p hp => ?_, fun t ht => ?_, fun r hr => ?_, ?_⟩, ⟨fun p hp => ?_, fun t ht => ?_, fun r hr => ?_, ?_⟩, ?_, ?_, ?_, ?_⟩, ?_, by omega, up2_i _ _ _ (by decide)⟩
  · rw [up2_i _ _ _ (by decide), z0 0 16 (by omega) (by omega) (by omega)]; exact hp1
  · rw [up2_i _ _ _ (by decide), z0 0 17 (by omega) (by omega) (by omega)]; exact hp5
  · rw [up2_i _ _ _ (by decide), z0 0 18 (by omega) (by omega) (by omega)]; exact hp10
  · rw [yB 3 p (by decide), yB 4 p (by decide), yB 5 p (by decide), z0 23 _ (by omega) (by omega) (by omega), z0 24 _ (by omega) (by omega) (by omega), z0 25 _ (by omega) (by omega) (by omega)]
    exact hbp p hp
  · rw [yB 7 t (by decide), yB 8 t (by decide), yB 9 t (by decide), yB 10 t (by decide), z0 26 _ (by omega) (by omega) (by omega), z0 27 _ (by omega) (by omega) (by omega), z0 28 _ (by omega) (by omega) (by omega), z0 29 _ (by omega) (by omega) (by omega)]
    exact hbt t ht
  · rw [yB 12 r (by decide), yB 13 r (by decide), yB 14 r (by decide), z0 30 _ (by omega) (by omega) (by omega), z0 31 _ (by omega) (by omega) (by omega), z0 32 _ (by omega) (by omega) (by omega)]
    exact hbr r hr
  · refine ⟨?_, ?_, ?_⟩
    · rw [up2_e, show (3 + 0 : Nat) = 3 from rfl, up2_e]
    · rw [up2_i _ _ _ (by decide), z0 22 4 (by omega) (by omega) (by omega)]; exact ho2
    · rw [up2_i _ _ _ (by decide), z0 22 5 (by omega) (by omega) (by omega)]; exact ho3
  · rw [yB 4 p (by decide), yB 5 p (by decide)]; exact hbi.1 p hp
  · rw [yB 7 t (by decide), yB 8 t (by decide), yB 9 t (by decide), yB 10 t (by decide)]; exact hbi.2.1 t ht
  · rw [yB 13 r (by decide), yB 14 r (by decide)]; exact hbi.2.2.1 r hr
  · obtain ⟨i1, i2, i3⟩ := hbi.2.2.2
    refine ⟨?_, ?_, ?_⟩
    · rw [up2_e]; exact ⟨a, r2, rfl⟩
    · rw [up2_i _ _ _ (by decide)]; exact i2
    · rw [up2_i _ _ _ (by decide)]; exact i3
  · exact hlw.e (fun r i q1 q2 => z0 r i (by omega) (by omega) (by omega)) (z0 0 19 (by omega) (by omega) (by omega))
  · refine ⟨1, b1, b2, by omega, by omega, by omega, ?_, ?_, ?_, ?_⟩
    · rw [up2_i _ _ _ (by decide), up2_e]
      congr 1
      omega
    · rw [z21]; rfl
    · rw [z0 21 1 (by omega) (by omega) (by omega)]; exact m1
    · rw [z0 21 2 (by omega) (by omega) (by omega)]; exact m2
  · rw [z0 0 43 (by omega) (by omega) (by omega), z0 0 19 (by omega) (by omega) (by omega)]; exact h43
  · rw [up2_i _ _ _ (by decide), up2_i _ _ _ (by decide), up2_i _ _ _ (by decide), up2_i _ _ _ (by decide), z0 0 4 (by omega) (by omega) (by omega), z0 0 5 (by omega) (by omega) (by omega)]
    exact ⟨z2, z3, m4, m5⟩
  · intro r i hrl hri
    refine z0 r i (fun w => ?_) (fun w => ?_) (fun w => ?_)
    · obtain ⟨rfl, w⟩ := w
      have : i = 7 ∨ i = 8 ∨ i = 9 ∨ i = 10 ∨ i = 11 := by omega
      rcases this with rfl | rfl | rfl | rfl | rfl <;> exact absurd hrl (by decide)
    · rw [hi_u (by omega)] at hrl
      cases hrl
    · rw [hi_u (by omega)] at hrl
      cases hrl
theorem on1_q (fu : Nat) (hf : 1000 ≤ fu) {P Z K B L M : S32} (v : S64) {e nx np nt nr : Nat} (h : TX P Z K B L M e nx np nt nr) (hk5 : K 0 5 = nI 4) : (∃ Z' B' K' M', f_X7_takeDull fu P Z K B = some (0, Z', K', B') ∧ f_X12_onceLine fu v M 1 1 99 = some (0, M') ∧ FT2 Z' M M') ∨ (∃ Z' B' K' M' nx', f_X7_takeDull fu P Z K B = some (1, Z', K', B') ∧ f_X12_onceLine fu v M 1 1 99 = some (1, M') ∧ TX P Z' K' B' L M' e nx' np nt nr ∧ LF M M' ∧ nx ≤ nx' ∧ B' 0 0 = B 0 0) := by
  obtain ⟨hS, hB, hbi, hlw, ⟨b0, b1, b2, hb0, hb1, hb2, z6, m0, m1, m2⟩, h43, z2, z3, m4, m5⟩ := id h
  obtain ⟨hn3, hp1, hp5, hp10, hbp, hbt, hbr, ho1, ho2, ho3⟩ := id hB
  have bit : (1 : Int32) <<< (K 0 5 &&& 31) = nI 16 := by rw [hk5]; decide
  have ck3 : ∀ k : Option (Int32 × S32), tx_ck (1 : Int32) 3 k = k := fun _ => rfl
  have ck6 : ∀ k : Option (Int32 × S32), tx_ck ((3 : Int32) + 1) 6 k = k := fun _ => rfl
  have cl : (1 : Int32).toNatClampNeg = 1 := rfl
  have cl6 : ((3 : Int32) + 1).toNatClampNeg = 3 + 1 := rfl
  unfold f_X7_takeDull f_X7_takeOnce f_X12_onceLine
  rw [bit, tx_let_q (nI 16), ck3, cl, m1, z6]
  have t1 : b1 = 0 → nI (8 * b0 + 16 * b1 + 32 * b2) &&& nI 16 = 0 ∧ nI (8 * b0 + 16 * b1 + 32 * b2) ||| nI 16 = nI (8 * b0 + 16 * b1 + 32 * b2 + 16) := by
    intro w
    have q0 : b0 = 0 ∨ b0 = 1 := by omega
    have q1 : b1 = 0 ∨ b1 = 1 := by omega
    have q2 : b2 = 0 ∨ b2 = 1 := by omega
    rcases q0 with rfl | rfl <;> rcases q1 with rfl | rfl <;> rcases q2 with rfl | rfl <;> first | exact absurd w (by decide) | exact ⟨by decide, by decide⟩
  have t2 : b1 = 1 → ¬ nI (8 * b0 + 16 * b1 + 32 * b2) &&& nI 16 = 0 := by
    intro w
    have q0 : b0 = 0 ∨ b0 = 1 := by omega
    have q1 : b1 = 0 ∨ b1 = 1 := by omega
    have q2 : b2 = 0 ∨ b2 = 1 := by omega
    rcases q0 with rfl | rfl <;> rcases q1 with rfl | rfl <;> rcases q2 with rfl | rfl <;> first | exact absurd w (by decide) | decide
  by_cases w : b1 = 0
  rotate_left
  · left
    have w1 : b1 = 1 := by omega
    obtain ⟨Z', M', c1, c2, c3⟩ := bl_q fu Z v hS.2.1 (LF.refl M) 3
    rw [if_neg (t2 w1), w1, if_neg (show ¬ nI 1 = (0 : Int32) by decide), c1, c2, tx_b2_q, tx_b2_q, tx_bz_0, tx_bz_0, tx_b3_q, if_pos rfl]
    exact ⟨_, _, _, _, rfl, rfl, c3⟩
  obtain ⟨t3, t4⟩ := t1 w
  have s1 : TK P K (up2 M 21 1 (1 &&& 1)) e nx := hS.1.up _ (by omega)
  obtain ⟨K1, M1, n1, a1, a2, a3, a4, a5, a6, a7, -⟩ := adv_q fu hf v s1
  have l1 : LF M M1 := ((LF.refl M).up _ (hi_u (by omega))).fm a6
  rw [if_pos t3, t4, tx_let_q (up2 Z 0 6 (nI (8 * b0 + 16 * b1 + 32 * b2 + 16))), a1, tx_b1_q, tx_b3_q, if_neg one_ne, if_pos (show nI b1 = (0 : Int32) by rw [w]; rfl), ck3, tx_let_q (up2 M 21 1 (1 &&& 1)), a2, tx_b1_q]
  rcases num2_q fu hf (Z := up2 Z 0 6 (nI (8 * b0 + 16 * b1 + 32 * b2 + 16))) v (lo := 1) (hi := 99) ⟨a3, a4, a5⟩ (by omega) (by omega) l1 with ⟨Z', M', c1, c2, c3⟩ | ⟨a, K2, M2, n2, r1, r2, c1, c2, c3, c4, c5⟩
  · left
    have c1' : f_X7_takeNumber fu P (up2 Z 0 6 (nI (8 * b0 + 16 * b1 + 32 * b2 + 16))) K1 1 99 = some (0, Z', K1) := c1
    have c2' : f_X12_number fu v M1 1 99 = some (0, M') := c2
    rw [c1', c2', tx_b3_q, tx_b2_q, if_pos rfl, if_pos rfl]
    exact ⟨_, _, _, _, rfl, rfl, c3⟩
  right
  have c1' : f_X7_takeNumber fu P (up2 Z 0 6 (nI (8 * b0 + 16 * b1 + 32 * b2 + 16))) K1 1 99 = some (1, up2 (up2 Z 0 6 (nI (8 * b0 + 16 * b1 + 32 * b2 + 16))) 0 5 (nI a), K2) := c1
  have c2' : f_X12_number fu v M1 1 99 = some (1, M2) := c2
  have y11 : M2 0 11 = nI a := by rw [c5.p (by omega), up2_e]
  rw [c1', c2', tx_b3_q, tx_b2_q, if_neg one_ne, if_neg one_ne, up2_e, tx_let_q (up2 B 0 15 (nI a)), ck6, cl6, y11, tx_let_q]
  have z0 : ∀ r i, ¬ (r = 0 ∧ (7 ≤ i ∧ i ≤ 11)) → ¬ (r = 21 ∧ i = 1) → ¬ (r = 22 ∧ i = 3 + 1) → (up2 M2 22 (3 + 1) (nI a)) r i = M r i := by
    intro r i q1 q2 q3
    rw [up2_a, if_neg (by omega), c5.p (by omega), up2_a, if_neg (by omega), a6.p (by omega), up2_a, if_neg (by omega)]
  have yB : ∀ r i, r ≠ 0 → (up2 B 0 15 (nI a)) r i = B r i := fun r i hr => by rw [up2_n _ _ _ hr]
  have z21 : (up2 M2 22 (3 + 1) (nI a)) 21 1 = 1 := by
    rw [up2_n _ _ _ (by decide), c5.p (by omega), up2_n _ _ _ (by decide), a6.p (by omega), up2_e]
    rfl
  refine ⟨_, _, _, _, n2, rfl, rfl, ⟨c3.up _ (by omega), ⟨hn3, ?_, ?_, ?_, fun p hp => ?_, fun t ht => ?_, fun r hr => ?_, ?_⟩, ⟨fun p hp => ?_, fun t ht => ?_, fun r hr => ?_, ?_⟩, ?_, ?_, ?_, ?_⟩, ?_, by omega, up2_i _ _ _ (by decide)⟩
  · rw [up2_i _ _ _ (by decide), z0 0 16 (by omega) (by omega) (by omega)]; exact hp1
  · rw [up2_i _ _ _ (by decide), z0 0 17 (by omega) (by omega) (by omega)]; exact hp5
  · rw [up2_i _ _ _ (by decide), z0 0 18 (by omega) (by omega) (by omega)]; exact hp10
  · rw [yB 3 p (by decide), yB 4 p (by decide), yB 5 p (by decide), z0 23 _ (by omega) (by omega) (by omega), z0 24 _ (by omega) (by omega) (by omega), z0 25 _ (by omega) (by omega) (by omega)]
    exact hbp p hp
  · rw [yB 7 t (by decide), yB 8 t (by decide), yB 9 t (by decide), yB 10 t (by decide), z0 26 _ (by omega) (by omega) (by omega), z0 27 _ (by omega) (by omega) (by omega), z0 28 _ (by omega) (by omega) (by omega), z0 29 _ (by omega) (by omega) (by omega)]
    exact hbt t ht
  · rw [yB 12 r (by decide), yB 13 r (by decide), yB 14 r (by decide), z0 30 _ (by omega) (by omega) (by omega), z0 31 _ (by omega) (by omega) (by omega), z0 32 _ (by omega) (by omega) (by omega)]
    exact hbr r hr
  · refine ⟨?_, ?_, ?_⟩
    · rw [up2_i _ _ _ (by decide), z0 22 3 (by omega) (by omega) (by omega)]; exact ho1
    · rw [up2_e, show (3 + 1 : Nat) = 4 from rfl, up2_e]
    · rw [up2_i _ _ _ (by decide), z0 22 5 (by omega) (by omega) (by omega)]; exact ho3
  · rw [yB 4 p (by decide), yB 5 p (by decide)]; exact hbi.1 p hp
  · rw [yB 7 t (by decide), yB 8 t (by decide), yB 9 t (by decide), yB 10 t (by decide)]; exact hbi.2.1 t ht
  · rw [yB 13 r (by decide), yB 14 r (by decide)]; exact hbi.2.2.1 r hr
  · obtain ⟨i1, i2, i3⟩ := hbi.2.2.2
    refine ⟨?_, ?_, ?_⟩
    · rw [up2_i _ _ _ (by decide)]; exact i1
    · rw [up2_e]; exact ⟨a, r1, r2, rfl⟩
    · rw [up2_i _ _ _ (by decide)]; exact i3
  · exact hlw.e (fun r i q1 q2 => z0 r i (by omega) (by omega) (by omega)) (z0 0 19 (by omega) (by omega) (by omega))
  · refine ⟨b0, 1, b2, by omega, by omega, by omega, ?_, ?_, ?_, ?_⟩
    · rw [up2_i _ _ _ (by decide), up2_e]
      congr 1
      omega
    · rw [z0 21 0 (by omega) (by omega) (by omega)]; exact m0
    · rw [z21]; rfl
    · rw [z0 21 2 (by omega) (by omega) (by omega)]; exact m2
  · rw [z0 0 43 (by omega) (by omega) (by omega), z0 0 19 (by omega) (by omega) (by omega)]; exact h43
  · rw [up2_i _ _ _ (by decide), up2_i _ _ _ (by decide), up2_i _ _ _ (by decide), up2_i _ _ _ (by decide), z0 0 4 (by omega) (by omega) (by omega), z0 0 5 (by omega) (by omega) (by omega)]
    exact ⟨z2, z3, m4, m5⟩
  · intro r i hrl hri
    refine z0 r i (fun w => ?_) (fun w => ?_) (fun w => ?_)
    · obtain ⟨rfl, w⟩ := w
      have : i = 7 ∨ i = 8 ∨ i = 9 ∨ i = 10 ∨ i = 11 := by omega
      rcases this with rfl | rfl | rfl | rfl | rfl <;> exact absurd hrl (by decide)
    · rw [hi_u (by omega)] at hrl
      cases hrl
    · rw [hi_u (by omega)] at hrl
      cases hrl
theorem on2_q (fu : Nat) (hf : 1000 ≤ fu) {P Z K B L M : S32} (v : S64) {e nx np nt nr : Nat} (h : TX P Z K B L M e nx np nt nr) (hk5 : K 0 5 = nI 5) : (∃ Z' B' K' M', f_X7_takeSeed fu P Z K B = some (0, Z', K', B') ∧ f_X12_onceLine fu v M 2 0 99999 = some (0, M') ∧ FT2 Z' M M') ∨ (∃ Z' B' K' M' nx', f_X7_takeSeed fu P Z K B = some (1, Z', K', B') ∧ f_X12_onceLine fu v M 2 0 99999 = some (1, M') ∧ TX P Z' K' B' L M' e nx' np nt nr ∧ LF M M' ∧ nx ≤ nx' ∧ B' 0 0 = B 0 0) := by
  obtain ⟨hS, hB, hbi, hlw, ⟨b0, b1, b2, hb0, hb1, hb2, z6, m0, m1, m2⟩, h43, z2, z3, m4, m5⟩ := id h
  obtain ⟨hn3, hp1, hp5, hp10, hbp, hbt, hbr, ho1, ho2, ho3⟩ := id hB
  have bit : (1 : Int32) <<< (K 0 5 &&& 31) = nI 32 := by rw [hk5]; decide
  have ck3 : ∀ k : Option (Int32 × S32), tx_ck (2 : Int32) 3 k = k := fun _ => rfl
  have ck6 : ∀ k : Option (Int32 × S32), tx_ck ((3 : Int32) + 2) 6 k = k := fun _ => rfl
  have cl : (2 : Int32).toNatClampNeg = 2 := rfl
  have cl6 : ((3 : Int32) + 2).toNatClampNeg = 3 + 2 := rfl
  unfold f_X7_takeSeed f_X7_takeOnce f_X12_onceLine
  rw [bit, tx_let_q (nI 32), ck3, cl, m2, z6]
  have t1 : b2 = 0 → nI (8 * b0 + 16 * b1 + 32 * b2) &&& nI 32 = 0 ∧ nI (8 * b0 + 16 * b1 + 32 * b2) ||| nI 32 = nI (8 * b0 + 16 * b1 + 32 * b2 + 32) := by
    intro w
    have q0 : b0 = 0 ∨ b0 = 1 := by omega
    have q1 : b1 = 0 ∨ b1 = 1 := by omega
    have q2 : b2 = 0 ∨ b2 = 1 := by omega
    rcases q0 with rfl | rfl <;> rcases q1 with rfl | rfl <;> rcases q2 with rfl | rfl <;> first | exact absurd w (by decide) | exact ⟨by decide, by decide⟩
  have t2 : b2 = 1 → ¬ nI (8 * b0 + 16 * b1 + 32 * b2) &&& nI 32 = 0 := by
    intro w
    have q0 : b0 = 0 ∨ b0 = 1 := by omega
    have q1 : b1 = 0 ∨ b1 = 1 := by omega
    have q2 : b2 = 0 ∨ b2 = 1 := by omega
    rcases q0 with rfl | rfl <;> rcases q1 with rfl | rfl <;> rcases q2 with rfl | rfl <;> first | exact absurd w (by decide) | decide
  by_cases w : b2 = 0
  rotate_left
  · left
    have w1 : b2 = 1 := by omega
    obtain ⟨Z', M', c1, c2, c3⟩ := bl_q fu Z v hS.2.1 (LF.refl M) 3
    rw [if_neg (t2 w1), w1, if_neg (show ¬ nI 1 = (0 : Int32) by decide), c1, c2, tx_b2_q, tx_b2_q, tx_bz_0, tx_bz_0, tx_b3_q, if_pos rfl]
    exact ⟨_, _, _, _, rfl, rfl, c3⟩
  obtain ⟨t3, t4⟩ := t1 w
  have s1 : TK P K (up2 M 21 2 (1 &&& 1)) e nx := hS.1.up _ (by omega)
  obtain ⟨K1, M1, n1, a1, a2, a3, a4, a5, a6, a7, -⟩ := adv_q fu hf v s1
  have l1 : LF M M1 := ((LF.refl M).up _ (hi_u (by omega))).fm a6
  rw [if_pos t3, t4, tx_let_q (up2 Z 0 6 (nI (8 * b0 + 16 * b1 + 32 * b2 + 32))), a1, tx_b1_q, tx_b3_q, if_neg one_ne, if_pos (show nI b2 = (0 : Int32) by rw [w]; rfl), ck3, tx_let_q (up2 M 21 2 (1 &&& 1)), a2, tx_b1_q]
  rcases num2_q fu hf (Z := up2 Z 0 6 (nI (8 * b0 + 16 * b1 + 32 * b2 + 32))) v (lo := 0) (hi := 99999) ⟨a3, a4, a5⟩ (by omega) (by omega) l1 with ⟨Z', M', c1, c2, c3⟩ | ⟨a, K2, M2, n2, r1, r2, c1, c2, c3, c4, c5⟩
  · left
    have c1' : f_X7_takeNumber fu P (up2 Z 0 6 (nI (8 * b0 + 16 * b1 + 32 * b2 + 32))) K1 0 99999 = some (0, Z', K1) := c1
    have c2' : f_X12_number fu v M1 0 99999 = some (0, M') := c2
    rw [c1', c2', tx_b3_q, tx_b2_q, if_pos rfl, if_pos rfl]
    exact ⟨_, _, _, _, rfl, rfl, c3⟩
  right
  have c1' : f_X7_takeNumber fu P (up2 Z 0 6 (nI (8 * b0 + 16 * b1 + 32 * b2 + 32))) K1 0 99999 = some (1, up2 (up2 Z 0 6 (nI (8 * b0 + 16 * b1 + 32 * b2 + 32))) 0 5 (nI a), K2) := c1
  have c2' : f_X12_number fu v M1 0 99999 = some (1, M2) := c2
  have y11 : M2 0 11 = nI a := by rw [c5.p (by omega), up2_e]
  rw [c1', c2', tx_b3_q, tx_b2_q, if_neg one_ne, if_neg one_ne, up2_e, tx_let_q (up2 B 0 16 (nI a)), ck6, cl6, y11, tx_let_q]
  have z0 : ∀ r i, ¬ (r = 0 ∧ (7 ≤ i ∧ i ≤ 11)) → ¬ (r = 21 ∧ i = 2) → ¬ (r = 22 ∧ i = 3 + 2) → (up2 M2 22 (3 + 2) (nI a)) r i = M r i := by
    intro r i q1 q2 q3
    rw [up2_a, if_neg (by omega), c5.p (by omega), up2_a, if_neg (by omega), a6.p (by omega), up2_a, if_neg (by omega)]
  have yB : ∀ r i, r ≠ 0 → (up2 B 0 16 (nI a)) r i = B r i := fun r i hr => by rw [up2_n _ _ _ hr]
  have z21 : (up2 M2 22 (3 + 2) (nI a)) 21 2 = 1 := by
    rw [up2_n _ _ _ (by decide), c5.p (by omega), up2_n _ _ _ (by decide), a6.p (by omega), up2_e]
    rfl
  refine ⟨_, _, _, _, n2, rfl, rfl, ⟨c3.up _ (by omega), ⟨hn3, ?_, ?_, ?_, fun p hp => ?_, fun t ht => ?_, fun r hr => ?_, ?_⟩, ⟨fun p hp => ?_, fun t ht => ?_, fun r hr => ?_, ?_⟩, ?_, ?_, ?_, ?_⟩, ?_, by omega, up2_i _ _ _ (by decide)⟩
  · rw [up2_i _ _ _ (by decide), z0 0 16 (by omega) (by omega) (by omega)]; exact hp1
  · rw [up2_i _ _ _ (by decide), z0 0 17 (by omega) (by omega) (by omega)]; exact hp5
  · rw [up2_i _ _ _ (by decide), z0 0 18 (by omega) (by omega) (by omega)]; exact hp10
  · rw [yB 3 p (by decide), yB 4 p (by decide), yB 5 p (by decide), z0 23 _ (by omega) (by omega) (by omega), z0 24 _ (by omega) (by omega) (by omega), z0 25 _ (by omega) (by omega) (by omega)]
    exact hbp p hp
  · rw [yB 7 t (by decide), yB 8 t (by decide), yB 9 t (by decide), yB 10 t (by decide), z0 26 _ (by omega) (by omega) (by omega), z0 27 _ (by omega) (by omega) (by omega), z0 28 _ (by omega) (by omega) (by omega), z0 29 _ (by omega) (by omega) (by omega)]
    exact hbt t ht
  · rw [yB 12 r (by decide), yB 13 r (by decide), yB 14 r (by decide), z0 30 _ (by omega) (by omega) (by omega), z0 31 _ (by omega) (by omega) (by omega), z0 32 _ (by omega) (by omega) (by omega)]
    exact hbr r hr
  · refine ⟨?_, ?_, ?_⟩
    · rw [up2_i _ _ _ (by decide), z0 22 3 (by omega) (by omega) (by omega)]; exact ho1
    · rw [up2_i _ _ _ (by decide), z0 22 4 (by omega) (by omega) (by omega)]; exact ho2
    · rw [up2_e, show (3 + 2 : Nat) = 5 from rfl, up2_e]
  · rw [yB 4 p (by decide), yB 5 p (by decide)]; exact hbi.1 p hp
  · rw [yB 7 t (by decide), yB 8 t (by decide), yB 9 t (by decide), yB 10 t (by decide)]; exact hbi.2.1 t ht
  · rw [yB 13 r (by decide), yB 14 r (by decide)]; exact hbi.2.2.1 r hr
  · obtain ⟨i1, i2, i3⟩ := hbi.2.2.2
    refine ⟨?_, ?_, ?_⟩
    · rw [up2_i _ _ _ (by decide)]; exact i1
    · rw [up2_i _ _ _ (by decide)]; exact i2
    · rw [up2_e]; exact ⟨a, r2, rfl⟩
  · exact hlw.e (fun r i q1 q2 => z0 r i (by omega) (by omega) (by omega)) (z0 0 19 (by omega) (by omega) (by omega))
  · refine ⟨b0, b1, 1, by omega, by omega, by omega, ?_, ?_, ?_, ?_⟩
    · rw [up2_i _ _ _ (by decide), up2_e]
      congr 1
      omega
    · rw [z0 21 0 (by omega) (by omega) (by omega)]; exact m0
    · rw [z0 21 1 (by omega) (by omega) (by omega)]; exact m1
    · rw [z21]; rfl
  · rw [z0 0 43 (by omega) (by omega) (by omega), z0 0 19 (by omega) (by omega) (by omega)]; exact h43
  · rw [up2_i _ _ _ (by decide), up2_i _ _ _ (by decide), up2_i _ _ _ (by decide), up2_i _ _ _ (by decide), z0 0 4 (by omega) (by omega) (by omega), z0 0 5 (by omega) (by omega) (by omega)]
    exact ⟨z2, z3, m4, m5⟩
  · intro r i hrl hri
    refine z0 r i (fun w => ?_) (fun w => ?_) (fun w => ?_)
    · obtain ⟨rfl, w⟩ := w
      have : i = 7 ∨ i = 8 ∨ i = 9 ∨ i = 10 ∨ i = 11 := by omega
      rcases this with rfl | rfl | rfl | rfl | rfl <;> exact absurd hrl (by decide)
    · rw [hi_u (by omega)] at hrl
      cases hrl
    · rw [hi_u (by omega)] at hrl
      cases hrl
