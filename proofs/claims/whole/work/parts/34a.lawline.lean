/-! the line of a law -/
def lawC (fu : Nat) (v_T : S64) (u_T_28 : S32) : Option (Int32 × S32) := if (u_T_28 0 8) = (1 : Int32) then (if (u_T_28 0 9) < (7 : Int32) then (f_X12_lineRead_J154 fu v_T u_T_28) else (if (u_T_28 0 9) ≤ (9 : Int32) then (tx_let (((3 : Int32) + (u_T_28 0 9)) - (7 : Int32)) fun (y_32 : Int32) => tx_ck y_32 6 <| if (u_T_28 33 y_32.toNatClampNeg) = (0 : Int32) then (tx_ck y_32 6 <| tx_let (up2 u_T_28 33 y_32.toNatClampNeg ((1 : Int32) &&& 1)) fun (u_T_36 : S32) => tx_b1 (f_X12_token fu v_T u_T_36) fun (u_T_38 : S32) => tx_ck y_32 6 <| tx_let (up2 u_T_38 34 y_32.toNatClampNeg (u_T_38 0 19)) fun (u_T_40 : S32) => tx_b2 (f_X12_sumRead fu v_T u_T_40) fun (r_42 : Int32) (u_T_43 : S32) => tx_ck y_32 6 <| tx_let (up2 u_T_43 35 y_32.toNatClampNeg (u_T_43 0 19)) fun (u_T_45 : S32) => f_X12_lineRead_J221 fu v_T u_T_45 r_42) else (tx_b2 (f_X12_wrong fu v_T u_T_28 (3 : Int32)) fun (r_47 : Int32) (u_T_48 : S32) => tx_bz r_47 <| some (r_47, u_T_48))) else (f_X12_lineRead_J154 fu v_T u_T_28))) else (f_X12_lineRead_J154 fu v_T u_T_28)
def tlC (fu : Nat) (u_P : S32) (u_B : S32) (v_L : S64) (p_R_8 : Nat) (pa_L : Nat) (u_T : S32) (u_K_2 : S32) (u_L : S32) (u_R : S32) : Option (Int32 × S32 × S32 × S32 × S32 × Nat) := if (u_K_2 0 4) = (4 : Int32) then (if (u_K_2 0 5) < (7 : Int32) then (f_X7_takeLaw_J42 fu u_P u_B v_L p_R_8 pa_L u_T u_K_2 u_L u_R) else (if (u_K_2 0 5) ≤ (9 : Int32) then (tx_let ((u_K_2 0 5) - (7 : Int32)) fun (y_6 : Int32) => tx_b1 (f_X5_isTold fu u_L v_L y_6) fun (r_8 : Int32) => if r_8 = (0 : Int32) then (tx_b1 (f_X8_advance fu u_P u_K_2) fun (u_K_11 : S32) => tx_b4 (f_X4_read fu v_L u_P u_R u_L u_K_11 y_6) fun (r_13 : Int32) (u_R_14 : S32) (u_L_15 : S32) (u_K_16 : S32) => if r_13 = (0 : Int32) then (f_X7_takeLaw_J114 fu u_P u_B v_L p_R_8 pa_L u_T u_K_16 u_L_15 u_R_14) else (tx_b2 (f_X7_blame fu u_K_16 u_T r_13) fun (r_19 : Int32) (u_T_20 : S32) => if r_19 = (0 : Int32) then (some ((0 : Int32), u_T_20, u_K_16, u_L_15, u_R_14, pa_L)) else (f_X7_takeLaw_J114 fu u_P u_B v_L p_R_8 pa_L u_T_20 u_K_16 u_L_15 u_R_14))) else (tx_b2 (f_X7_blame fu u_K_2 u_T (3 : Int32)) fun (r_23 : Int32) (u_T_24 : S32) => tx_bz r_23 <| some (r_23, u_T_24, u_K_2, u_L, u_R, p_R_8))) else (f_X7_takeLaw_J42 fu u_P u_B v_L p_R_8 pa_L u_T u_K_2 u_L u_R))) else (f_X7_takeLaw_J42 fu u_P u_B v_L p_R_8 pa_L u_T u_K_2 u_L u_R)
theorem knW.b {M M' : S32} {N : Nat} (e : ∀ r i, 36 ≤ r → r ≤ 38 → i < N → M' r i = M r i) : ∀ n i st, i + n ≤ N → knW M n i st → knW M' n i st := by
  intro n
  induction n with
  | zero => intro i st _ h; exact h
  | succ n ih =>
    intro i st hi h
    unfold knW
    rw [e 36 i (by omega) (by omega) (by omega), e 37 i (by omega) (by omega) (by omega), e 38 i (by omega) (by omega) (by omega)]
    rcases h with ⟨a, b, c⟩ | ⟨a, b, c⟩ | ⟨a, x, s, b, c, d⟩ | ⟨a, y, x, s, b, c, d, f⟩
    · exact Or.inl ⟨a, b, ih _ _ (by omega) c⟩
    · exact Or.inr (Or.inl ⟨a, b, ih _ _ (by omega) c⟩)
    · exact Or.inr (Or.inr (Or.inl ⟨a, x, s, b, c, ih _ _ (by omega) d⟩))
    · exact Or.inr (Or.inr (Or.inr ⟨a, y, x, s, b, c, d, ih _ _ (by omega) f⟩))
theorem sw_7 {k : Nat} (h : k < 7) : sw k = k := by unfold sw; rw [if_neg (by omega), if_neg (by omega)]
theorem sw_10 {k : Nat} (h : 10 ≤ k) : 10 ≤ sw k := by unfold sw; split <;> (try omega); split <;> omega
theorem sw_20 {k : Nat} (h : k < 20) : sw k < 20 := by unfold sw; split <;> (try omega); split <;> omega
theorem sw_79 {j : Nat} (h : j < 3) : sw (7 + j) = 7 + j := by unfold sw; rw [if_neg (by omega), if_neg (by omega)]
theorem lt3 {j : Nat} (h : j < 3) : j = 0 ∨ j = 1 ∨ j = 2 := by omega
theorem law_q (fu : Nat) (hf : 1000 ≤ fu) {P Z K B L R M : S32} (vL v : S64) {e nx np nt nr : Nat} (pR pL : Nat) (h : TX P Z K B L M e nx np nt nr) (m8 : M 0 8 = 1) (m9 : M 0 9 = 6) :
    (∃ Z' K' L' R' q M', f_X7_takeLaw fu P B vL pR pL Z K L R = some (0, Z', K', L', R', q) ∧ f_X12_lineRead fu v M = some (0, M') ∧ FT2 Z' M M') ∨
    (∃ Z' K' L' R' q M' nx', f_X7_takeLaw fu P B vL pR pL Z K L R = some (1, Z', K', L', R', q) ∧ f_X12_lineRead fu v M = f_X12_lineRead_J221 fu v M' 1 ∧ TX P Z' K' B L' M' e nx' np nt nr ∧ LF M M' ∧ nx ≤ nx') := by
  obtain ⟨hS, hB, hbi, hlw, hon, h43, z2, z3, m4, m5⟩ := id h
  obtain ⟨n, hn, l5, m19, hk, hj5⟩ := id hlw
  have he : e ≤ 700 := hS.1.1.1
  obtain ⟨K1, M1, n1, a1, a2, a3, a4, a5, a6, a7, -⟩ := adv_q fu hf v hS.1
  have l1 : LF M M1 := (LF.refl M).fm a6
  have D : f_X12_lineRead fu v M = lawC fu v M1 := by
    unfold f_X12_lineRead
    rw [m8, m9, if_pos rfl, if_pos (show (6 : Int32) ≤ 6 by decide), if_neg (show ¬ (6 : Int32) = 0 by decide), if_neg (show ¬ (6 : Int32) = 1 by decide), if_neg (show ¬ (6 : Int32) = 2 by decide), if_neg (show ¬ (6 : Int32) = 3 by decide), if_neg (show ¬ (6 : Int32) = 4 by decide), if_neg (show ¬ (6 : Int32) = 5 by decide), a2, tx_b1_q]
    rfl
  have E : f_X7_takeLaw fu P B vL pR pL Z K L R = tlC fu P B vL pR pL Z K1 L R := by
    unfold f_X7_takeLaw
    rw [a1, tx_b1_q]
    rfl
  have bad : tlC fu P B vL pR pL Z K1 L R = f_X7_takeLaw_J42 fu P B vL pR pL Z K1 L R → lawC fu v M1 = f_X12_lineRead_J154 fu v M1 → ∃ Z' K' L' R' q M', f_X7_takeLaw fu P B vL pR pL Z K L R = some (0, Z', K', L', R', q) ∧ f_X12_lineRead fu v M = some (0, M') ∧ FT2 Z' M M' := by
    intro q1 q2
    obtain ⟨Z', M', c1, c2, c3⟩ := bl_q fu Z v a4 l1 1
    refine ⟨Z', K1, L, R, pR, M', ?_, ?_, c3⟩
    · rw [E, q1]
      unfold f_X7_takeLaw_J42
      rw [c1, tx_b2_q, tx_bz_0]
    · rw [D, q2]
      unfold f_X12_lineRead_J154
      rw [c2, tx_b2_q, tx_bz_0]
  by_cases z : K1 0 4 = 4
  rotate_left
  · left
    refine bad ?_ ?_
    · unfold tlC; rw [if_neg z]
    · unfold lawC; rw [if_neg (fun w => z ((kn_q a5).2.2.2.mpr w))]
  have zm : M1 0 8 = 1 := (kn_q a5).2.2.2.mp z
  obtain ⟨k, hk20, ek, em⟩ := kn_wrd a5 z
  by_cases y7 : k < 7
  · left
    refine bad ?_ ?_
    · unfold tlC; rw [if_pos z, ek, sw_7 y7, if_pos (show nI k < (7 : Int32) from nI_lt (b := 7) y7 (by omega))]
    · unfold lawC; rw [if_pos zm, em, if_pos (show nI k < (7 : Int32) from nI_lt (b := 7) y7 (by omega))]
  by_cases y9 : 10 ≤ k
  · left
    have s1 := sw_10 y9
    have s2 := sw_20 hk20
    refine bad ?_ ?_
    · unfold tlC; rw [if_pos z, ek, if_neg (show ¬ nI (sw k) < (7 : Int32) from nI_nlt (a := sw k) (b := 7) (by omega) (by omega)), if_neg (show ¬ nI (sw k) ≤ (9 : Int32) from nI_ge (a := 9) (b := sw k) (by omega) (by omega))]
    · unfold lawC; rw [if_pos zm, em, if_neg (show ¬ nI (k) < (7 : Int32) from nI_nlt (a := k) (b := 7) (by omega) (by omega)), if_neg (show ¬ nI (k) ≤ (9 : Int32) from nI_ge (a := 9) (b := k) (by omega) (by omega))]
  obtain ⟨j, hj, rfl⟩ : ∃ j, j < 3 ∧ k = 7 + j := ⟨k - 7, by omega, by omega⟩
  have c7 : nI (7 + j) - (7 : Int32) = nI j := by rcases lt3 hj with rfl | rfl | rfl <;> decide
  have c3 : ((3 : Int32) + nI (7 + j)) - (7 : Int32) = nI (3 + j) := by rcases lt3 hj with rfl | rfl | rfl <;> decide
  have e33 : M1 33 (3 + j) = M 33 (3 + j) := a6.p (by omega)
  have E2 : tlC fu P B vL pR pL Z K1 L R = (if L 3 j = (-1 : Int32) then (tx_b1 (f_X8_advance fu P K1) fun (u_K_11 : S32) => tx_b4 (f_X4_read fu vL P R L u_K_11 (nI j)) fun (r_13 : Int32) (u_R_14 : S32) (u_L_15 : S32) (u_K_16 : S32) => if r_13 = (0 : Int32) then (f_X7_takeLaw_J114 fu P B vL pR pL Z u_K_16 u_L_15 u_R_14) else (tx_b2 (f_X7_blame fu u_K_16 Z r_13) fun (r_19 : Int32) (u_T_20 : S32) => if r_19 = (0 : Int32) then (some ((0 : Int32), u_T_20, u_K_16, u_L_15, u_R_14, pL)) else (f_X7_takeLaw_J114 fu P B vL pR pL u_T_20 u_K_16 u_L_15 u_R_14))) else (tx_b2 (f_X7_blame fu K1 Z (3 : Int32)) fun (r_23 : Int32) (u_T_24 : S32) => tx_bz r_23 <| some (r_23, u_T_24, K1, L, R, pR))) := by
    unfold tlC f_X5_isTold
    rw [if_pos z, ek, sw_79 hj, if_neg (show ¬ nI (7 + j) < (7 : Int32) from nI_nlt (a := 7 + j) (b := 7) (by omega) (by omega)), if_pos (show nI (7 + j) ≤ (9 : Int32) from nI_le (a := 7 + j) (b := 9) (by omega) (by omega)), c7, tx_let_q, if_neg (nI_pos (n := j) (by omega)), if_neg (show ¬ (3 : Int32) ≤ nI j from nI_ge (b := 3) (by omega) (by omega)), tx_ck_q (j := j) (by omega) (by omega), nI_clamp (n := j) (by omega)]
    by_cases w : L 3 j = (-1 : Int32)
    · rw [if_pos w, if_pos w, tx_b1_q, if_pos rfl]
    · rw [if_neg w, if_neg w, tx_b1_q, if_neg one_ne]
  have D2 : lawC fu v M1 = (if M 33 (3 + j) = (0 : Int32) then (tx_b1 (f_X12_token fu v (up2 M1 33 (3 + j) 1)) fun (u_T_38 : S32) => tx_b2 (f_X12_sumRead fu v (up2 u_T_38 34 (3 + j) (u_T_38 0 19))) fun (r_42 : Int32) (u_T_43 : S32) => f_X12_lineRead_J221 fu v (up2 u_T_43 35 (3 + j) (u_T_43 0 19)) r_42) else (tx_b2 (f_X12_wrong fu v M1 (3 : Int32)) fun (r_47 : Int32) (u_T_48 : S32) => tx_bz r_47 <| some (r_47, u_T_48))) := by
    have ck : ∀ k : Option (Int32 × S32), tx_ck (nI (3 + j)) 6 k = k := fun k => tx_ck_q (j := 3 + j) (n := 6) (by omega) (by omega) k
    unfold lawC
    rw [if_pos zm, em, if_neg (show ¬ nI (7 + j) < (7 : Int32) from nI_nlt (a := 7 + j) (b := 7) (by omega) (by omega)), if_pos (show nI (7 + j) ≤ (9 : Int32) from nI_le (a := 7 + j) (b := 9) (by omega) (by omega)), c3, tx_let_q]
    simp only [ck, nI_clamp (n := 3 + j) (by omega), e33, tx_let_q, show (1 : Int32) &&& 1 = 1 from rfl]
  rcases hj5 j hj with ⟨q1, q2⟩ | ⟨q2, a, b, g1, g2, q1, -⟩
  rotate_left
  · left
    obtain ⟨Z', M', c1, c2, c3⟩ := bl_q fu Z v a4 l1 3
    refine ⟨Z', K1, L, R, pR, M', ?_, ?_, c3⟩
    · rw [E, E2, if_neg (by rw [q1]; exact m1_ne (by omega)), c1, tx_b2_q, tx_bz_0]
    · rw [D, D2, q2, if_neg one_ne, c2, tx_b2_q, tx_bz_0]
  have s1 : TK P K1 (up2 M1 33 (3 + j) 1) e n1 := a3.up _ (by omega)
  obtain ⟨K2, M2, n2, b1, b2, b3, b4, b5, b6, b7, b8⟩ := adv_q fu hf v s1
  obtain ⟨L1, qL⟩ : ∃ L1, L1 = up2 (up2 L 3 j (L 0 5)) 4 j (L 0 5) := ⟨_, rfl⟩
  obtain ⟨R1, qR⟩ : ∃ R1, R1 = up2 (up2 (up2 (up2 (up2 (up2 R 0 2 0) 0 4 0) 0 5 (L1 0 5)) 0 6 1) 0 7 1) 4 0 0 := ⟨_, rfl⟩
  obtain ⟨M4, q4⟩ : ∃ M4, M4 = up2 (up2 (up2 (up2 (up2 (up2 M2 34 (3 + j) (M2 0 19)) 0 40 0) 0 41 0) 0 42 0) 0 44 1) 0 45 1 := ⟨_, rfl⟩
  have dR : f_X4_read fu vL P R L K2 (nI j) = f_X4_read_L48 fu vL P fu R1 L1 K2 (nI j) 0 := by
    unfold f_X4_read f_X5_open
    rw [if_neg (nI_pos (n := j) (by omega)), if_neg (show ¬ (3 : Int32) ≤ nI j from nI_ge (b := 3) (by omega) (by omega)), tx_ck_q (j := j) (by omega) (by omega), tx_let_q, tx_ck_q (j := j) (by omega) (by omega), tx_let_q, nI_clamp (n := j) (by omega), tx_b1_q]
    have x5 : (up2 L 3 j (L 0 5)) 0 5 = L 0 5 := by rw [up2_n _ _ _ (by decide)]
    rw [x5, ← qL, qR]
    rfl
  have dM : f_X12_sumRead fu v (up2 M2 34 (3 + j) (M2 0 19)) = f_X12_sumRead_L25 fu v fu M4 := by
    rw [q4]; rfl
  have z4 : ∀ r i, ¬ (r = 0 ∧ ((7 ≤ i ∧ i ≤ 10) ∨ (40 ≤ i ∧ i ≤ 45 ∧ i ≠ 43))) → ¬ (r = 33 ∧ i = 3 + j) → ¬ (r = 34 ∧ i = 3 + j) → M4 r i = M r i := by
    intro r i x1 x2 x3
    rw [q4, up2_a, if_neg (by omega), up2_a, if_neg (by omega), up2_a, if_neg (by omega), up2_a, if_neg (by omega), up2_a, if_neg (by omega), up2_a, if_neg (by omega), b6.p (by omega), up2_a, if_neg (by omega), a6.p (by omega)]
  have x33 : M4 33 (3 + j) = 1 := by
    rw [q4, up2_n _ _ _ (by decide), up2_n _ _ _ (by decide), up2_n _ _ _ (by decide), up2_n _ _ _ (by decide), up2_n _ _ _ (by decide), up2_n _ _ _ (by decide), b6.p (by omega), up2_e]
  have x219 : M2 0 19 = nI n := by rw [b6.p (by omega), up2_n _ _ _ (by decide), a6.p (by omega)]; exact m19
  have x34 : M4 34 (3 + j) = nI n := by
    rw [q4, up2_n _ _ _ (by decide), up2_n _ _ _ (by decide), up2_n _ _ _ (by decide), up2_n _ _ _ (by decide), up2_n _ _ _ (by decide), up2_e]; exact x219
  have l4 : LF M M4 := by
    rw [q4]
    exact ((((((((l1.up _ (hi_u (by omega))).fm b6).up _ (hi_u (by omega))).up _ (by decide)).up _ (by decide)).up _ (by decide)).up _ (by decide)).up _ (by decide))
  have yL : ∀ r i, ¬ (r = 3 ∧ i = j) → ¬ (r = 4 ∧ i = j) → L1 r i = L r i := fun r i x1 x2 => by rw [qL, up2_a, if_neg (by omega), up2_a, if_neg (by omega)]
  have yL3 : L1 3 j = nI n := by rw [qL, up2_n _ _ _ (by decide), up2_e]; exact l5
  have L15 : L1 0 5 = nI n := by rw [yL 0 5 (by omega) (by omega)]; exact l5
  have hSt : ST P K2 M4 e n2 := by
    rw [q4]
    exact ((((((show ST P K2 M2 e n2 from ⟨b3, b4, b5⟩).up _ (by omega)).up _ (by omega)).up _ (by omega)).up _ (by omega)).up _ (by omega)).up _ (by omega)
  have hBS : BS R1 L1 M4 n n [] [] := by
    refine ⟨?_, ?_, trivial, trivial, ?_, ?_, L15, Nat.le_refl _, fun M' _ m hm => ?_, fun i hi => ?_⟩
    · rw [qR]; rfl
    · rw [q4]; rfl
    · rw [q4]; rfl
    · rw [z4 0 19 (by omega) (by omega) (by omega)]; exact m19
    · rw [Nat.sub_self, Nat.zero_add]; exact hm
    · rw [yL 1 i (by omega) (by omega), yL 2 i (by omega) (by omega), z4 36 _ (by omega) (by omega) (by omega), z4 37 _ (by omega) (by omega) (by omega)]
      exact hk i hi
  have hLW : LWs P K2 R1 L1 M4 e n2 n n [] [] 1 1 := by
    refine ⟨hSt, hBS, ⟨by omega, ?_, ?_⟩, ⟨by omega, ?_, ?_⟩, ⟨Nat.zero_le _, ?_, ?_⟩, ⟨?_, ?_, ?_⟩, rfl, ⟨?_, trivial⟩, fun _ _ => rfl, fun w => absurd w (by omega)⟩
    · rw [q4]; rfl
    · rw [qR]; rfl
    · rw [q4]; rfl
    · rw [qR]; rfl
    · rw [q4]; rfl
    · rw [qR]; rfl
    · exact hn
    · rw [z4 0 43 (by omega) (by omega) (by omega), h43]; exact m19
    · rw [qR]; exact L15
    · rw [qR]; rfl
  rw [E, D, E2, D2, if_pos q1, if_pos q2, b1, b2, tx_b1_q, tx_b1_q, dR, dM]
  have hLL := lawL fu hf (M0 := M4) (L0 := L1) vL v (a := n) hj (e + 1) K2 R1 L1 M4 n2 n [] [] 1 1 0 fu fu hLW (EF.refl _ _) (LE.refl _ _) (Nat.zero_le _) (fun q => by have := b8 q; omega) (fun q => by omega) (by omega) (by omega)
  rw [nI_0] at hLL
  rcases hLL with ⟨c, R', L', K', M', hc, t1, t2, t4, t5, t6⟩ | ⟨R', L', K', M', n', nx', t1, t2, t3, t4, t5, t6, t7, t8, t9⟩
  · left
    have hc0 : ¬ c = 0 := by rcases hc with rfl | rfl <;> decide
    refine ⟨up2 (up2 Z 0 2 c) 0 3 (K' 0 3), K', L', R', pL, up2 M' 35 (3 + j) (M' 0 19), ?_, ?_, ?_, ?_, ?_⟩
    · rw [t1, tx_b4_q, if_neg hc0]; rfl
    · rw [t2, tx_b2_q]; rfl
    · rw [up2_i _ _ _ (by decide), up2_e, up2_n _ _ _ (by decide), t4]
    · rw [up2_e, up2_n _ _ _ (by decide), t5]
    · exact (l4.trans t6).up _ (hi_u (by omega))
  · right
    obtain ⟨w1, w2, w3, w4, w5, w6, w7, w8, w9, w10⟩ := t4
    have v19 : M' 0 19 = nI n' := w6
    have nlt : n < n' := by
      rcases Nat.lt_or_ge n n' with q | q
      · exact q
      · have e1 : n' = n := by omega
        have g := w9 (hfM M') (fun _ _ _ _ _ => rfl) 0 (show [n' - 1] = [n' - 1] from rfl)
        rw [e1, Nat.sub_self, Nat.zero_add] at g
        exact absurd (show ([] : List Nat) = [n - 1] from g) (by simp)
    have kw : knW (hfM M') (n' - n) n [] := by
      have g := w9 (hfM M') (fun _ _ _ _ _ => rfl) 0 (show [n' - 1] = [n' - 1] from rfl)
      rw [Nat.add_zero] at g
      exact g
    have z5 : ∀ r i, ¬ (r = 0 ∧ ((7 ≤ i ∧ i ≤ 10) ∨ i = 19 ∨ (40 ≤ i ∧ i ≤ 45))) → ¬ (r = 33 ∧ i = 3 + j) → ¬ (r = 34 ∧ i = 3 + j) → ¬ (r = 35 ∧ i = 3 + j) → ¬ ((36 ≤ r ∧ r ≤ 38) ∧ 64 + n ≤ i) → ¬ (r = 39 ∨ r = 40) → (up2 M' 35 (3 + j) (M' 0 19)) r i = M r i := by
      intro r i x1 x2 x3 x4 x5 x6
      rw [up2_a, if_neg (by omega), t7 r i x6 x5 (by omega), z4 r i (by omega) x2 x3]
    have lL : ∀ r i, ¬ ((r = 1 ∨ r = 2) ∧ n ≤ i) → ¬ (r = 0 ∧ i = 5) → ¬ (r = 3 ∧ i = j) → ¬ (r = 4 ∧ i = j) → (up2 L' 4 j (nI n')) r i = L r i := by
      intro r i x1 x2 x3 x4
      rw [up2_a, if_neg (by omega), t8 r i x1 x2, yL r i x3 x4]
    refine ⟨Z, K', up2 L' 4 j (nI n'), R', pL, up2 M' 35 (3 + j) (M' 0 19), nx', ?_, ?_, ⟨t3.up _ (by omega), ?_, hbi, ?_, ?_, ?_, z2, z3, ?_, ?_⟩, ?_, by omega⟩
    · rw [t1, tx_b4_q, if_pos rfl]; rfl
    · rw [t2, tx_b2_q]
    · obtain ⟨hn3, hp1, hp5, hp10, hbp, hbt, hbr, ho1, ho2, ho3⟩ := id hB
      refine ⟨hn3, ?_, ?_, ?_, fun p hp => ?_, fun t ht => ?_, fun r hr => ?_, ?_, ?_, ?_⟩
      · rw [z5 0 16 (by omega) (by omega) (by omega) (by omega) (by omega) (by omega)]; exact hp1
      · rw [z5 0 17 (by omega) (by omega) (by omega) (by omega) (by omega) (by omega)]; exact hp5
      · rw [z5 0 18 (by omega) (by omega) (by omega) (by omega) (by omega) (by omega)]; exact hp10
      · rw [z5 23 _ (by omega) (by omega) (by omega) (by omega) (by omega) (by omega), z5 24 _ (by omega) (by omega) (by omega) (by omega) (by omega) (by omega), z5 25 _ (by omega) (by omega) (by omega) (by omega) (by omega) (by omega)]; exact hbp p hp
      · rw [z5 26 _ (by omega) (by omega) (by omega) (by omega) (by omega) (by omega), z5 27 _ (by omega) (by omega) (by omega) (by omega) (by omega) (by omega), z5 28 _ (by omega) (by omega) (by omega) (by omega) (by omega) (by omega), z5 29 _ (by omega) (by omega) (by omega) (by omega) (by omega) (by omega)]; exact hbt t ht
      · rw [z5 30 _ (by omega) (by omega) (by omega) (by omega) (by omega) (by omega), z5 31 _ (by omega) (by omega) (by omega) (by omega) (by omega) (by omega), z5 32 _ (by omega) (by omega) (by omega) (by omega) (by omega) (by omega)]; exact hbr r hr
      · rw [z5 22 3 (by omega) (by omega) (by omega) (by omega) (by omega) (by omega)]; exact ho1
      · rw [z5 22 4 (by omega) (by omega) (by omega) (by omega) (by omega) (by omega)]; exact ho2
      · rw [z5 22 5 (by omega) (by omega) (by omega) (by omega) (by omega) (by omega)]; exact ho3
    · refine ⟨n', t5, ?_, ?_, fun i hi => ?_, fun j' hj' => ?_⟩
      · rw [up2_n _ _ _ (by decide)]; exact w7
      · rw [up2_n _ _ _ (by decide)]; exact v19
      · rw [up2_n _ _ _ (by decide), up2_n _ _ _ (by decide), up2_n _ _ _ (by decide), up2_n _ _ _ (by decide)]; exact w10 i hi
      · by_cases ej : j' = j
        · subst ej
          refine Or.inr ⟨?_, n, n', nlt, Nat.le_refl _, ?_, ?_, ?_, ?_, ?_⟩
          · rw [up2_n _ _ _ (by decide), t7 33 _ (by omega) (by omega) (by omega)]; exact x33
          · rw [up2_n _ _ _ (by decide), t8 3 _ (by omega) (by omega)]; exact yL3
          · rw [up2_e]
          · rw [up2_n _ _ _ (by decide), t7 34 _ (by omega) (by omega) (by omega)]; exact x34
          · rw [up2_e]; exact v19
          · exact knW.b (N := 64) (fun r i r1 r2 _ => show (up2 M' 35 (3 + j') (M' 0 19)) r (64 + i) = M' r (64 + i) by rw [up2_n _ _ _ (by omega)]) _ _ _ (by omega) kw
        · rw [lL 3 j' (by omega) (by omega) (by omega) (by omega), lL 4 j' (by omega) (by omega) (by omega) (by omega), z5 33 _ (by omega) (by omega) (by omega) (by omega) (by omega) (by omega), z5 34 _ (by omega) (by omega) (by omega) (by omega) (by omega) (by omega), z5 35 _ (by omega) (by omega) (by omega) (by omega) (by omega) (by omega)]
          rcases hj5 j' hj' with x | ⟨x, a', b', x1, x2, x3, x4, x5, x6, x7⟩
          · exact Or.inl x
          · refine Or.inr ⟨x, a', b', x1, by omega, x3, x4, x5, x6, knW.b (N := n) (fun r i r1 r2 r3 => ?_) _ _ _ (by omega) x7⟩
            show (up2 M' 35 (3 + j) (M' 0 19)) r (64 + i) = M r (64 + i)
            exact z5 r _ (by omega) (by omega) (by omega) (by omega) (by omega) (by omega)
    · unfold onR
      rw [z5 21 _ (by omega) (by omega) (by omega) (by omega) (by omega) (by omega), z5 21 _ (by omega) (by omega) (by omega) (by omega) (by omega) (by omega), z5 21 _ (by omega) (by omega) (by omega) (by omega) (by omega) (by omega)]
      exact hon
    · rw [up2_n _ _ _ (by decide), t6, v19]
    · rw [z5 0 4 (by omega) (by omega) (by omega) (by omega) (by omega) (by omega)]; exact m4
    · rw [z5 0 5 (by omega) (by omega) (by omega) (by omega) (by omega) (by omega)]; exact m5
    · exact (l4.trans t7.lf).up _ (hi_u (by omega))
