/-! a line, its end, all lines -/
theorem tx_b7_q {α β δ ε ζ η θ γ : Type} (a : α) (b : β) (c : δ) (d : ε) (e : ζ) (f : η) (g : θ) (k : α → β → δ → ε → ζ → η → θ → Option γ) : tx_b7 (some (a, b, c, d, e, f, g)) k = k a b c d e f g := rfl
theorem bkU.e {B M M' : S32} {np nt nr : Nat} (h : bkU B M np nt nr) (e : ∀ r i, 22 ≤ r → r ≤ 32 → M' r i = M r i) (e0 : ∀ i, 16 ≤ i → i ≤ 18 → M' 0 i = M 0 i) : bkU B M' np nt nr := by
  obtain ⟨hn3, hp1, hp5, hp10, hbp, hbt, hbr, ho1, ho2, ho3⟩ := h
  refine ⟨hn3, ?_, ?_, ?_, fun p hp => ?_, fun t ht => ?_, fun r hr => ?_, ?_, ?_, ?_⟩
  · rw [e0 16 (by omega) (by omega)]; exact hp1
  · rw [e0 17 (by omega) (by omega)]; exact hp5
  · rw [e0 18 (by omega) (by omega)]; exact hp10
  · rw [e 23 _ (by omega) (by omega), e 24 _ (by omega) (by omega), e 25 _ (by omega) (by omega)]; exact hbp p hp
  · rw [e 26 _ (by omega) (by omega), e 27 _ (by omega) (by omega), e 28 _ (by omega) (by omega), e 29 _ (by omega) (by omega)]; exact hbt t ht
  · rw [e 30 _ (by omega) (by omega), e 31 _ (by omega) (by omega), e 32 _ (by omega) (by omega)]; exact hbr r hr
  · rw [e 22 _ (by omega) (by omega)]; exact ho1
  · rw [e 22 _ (by omega) (by omega)]; exact ho2
  · rw [e 22 _ (by omega) (by omega)]; exact ho3
theorem TX.b0 {P Z K B L M : S32} {e nx np nt nr : Nat} (h : TX P Z K B L M e nx np nt nr) (x : Int32) : TX P Z K (up2 B 0 0 x) L M e nx np nt nr := by
  obtain ⟨hS, hB, hbi, hrest⟩ := h
  obtain ⟨hn3, ⟨hp1, hm1⟩, ⟨hp5, hm5⟩, ⟨hp10, hm10⟩, hbp, hbt, hbr, ho1, ho2, ho3⟩ := hB
  have y0 : ∀ i, i ≠ 0 → (up2 B 0 0 x) 0 i = B 0 i := fun i hi => up2_i _ _ _ hi
  have yr : ∀ r, r ≠ 0 → (up2 B 0 0 x) r = B r := fun r hr => up2_n _ _ _ hr
  refine ⟨hS, ⟨hn3, ⟨?_, hm1⟩, ⟨?_, hm5⟩, ⟨?_, hm10⟩, ?_, ?_, ?_, ?_, ?_, ?_⟩, ?_, hrest⟩
  · rw [y0 1 (by decide)]; exact hp1
  · rw [y0 5 (by decide)]; exact hp5
  · rw [y0 10 (by decide)]; exact hp10
  · rw [yr 3 (by decide), yr 4 (by decide), yr 5 (by decide)]; exact hbp
  · rw [yr 7 (by decide), yr 8 (by decide), yr 9 (by decide), yr 10 (by decide)]; exact hbt
  · rw [yr 12 (by decide), yr 13 (by decide), yr 14 (by decide)]; exact hbr
  · rw [y0 14 (by decide)]; exact ho1
  · rw [y0 15 (by decide)]; exact ho2
  · rw [y0 16 (by decide)]; exact ho3
  · unfold bkIn
    rw [yr 4 (by decide), yr 5 (by decide), yr 7 (by decide), yr 8 (by decide), yr 9 (by decide), yr 10 (by decide), yr 13 (by decide), yr 14 (by decide), y0 14 (by decide), y0 15 (by decide), y0 16 (by decide)]
    exact hbi
theorem lt7 {k : Nat} (h : k < 7) : k = 0 ∨ k = 1 ∨ k = 2 ∨ k = 3 ∨ k = 4 ∨ k = 5 ∨ k = 6 := by omega
theorem ne_k {a b : Nat} (ha : a < 100) (hb : b < 100) (h : a ≠ b) : ¬ nI a = nI b := fun z => h ((nI_eq (by omega) (by omega)).mp z)
theorem line_q (fu : Nat) (hf : 1000 ≤ fu) {P Z K B L M : S32} (R : S32) (vL v : S64) {e nx np nt nr : Nat} (pR pL : Nat) (h : TX P Z K B L M e nx np nt nr) :
    (∃ Z' K' B' L' R' q M', f_X7_takeLine fu P vL pR pL Z K B L R = some (0, Z', K', B', L', R', q) ∧ f_X12_lineRead fu v M = some (0, M') ∧ FT2 Z' M M') ∨
    (∃ Z' K' B' L' R' q M' nx' np' nt' nr', f_X7_takeLine fu P vL pR pL Z K B L R = some (1, Z', K', B', L', R', q) ∧ f_X12_lineRead fu v M = f_X12_lineRead_J221 fu v M' 1 ∧ TX P Z' K' B' L' M' e nx' np' nt' nr' ∧ LF M M' ∧ nx ≤ nx' ∧ B' 0 0 = B 0 0) := by
  have hT := h.1.2.2
  by_cases z : K 0 4 = 4
  rotate_left
  · left
    obtain ⟨Z', M', c1, c2, c3⟩ := bl_q fu Z v h.1.2.1 (LF.refl M) 1
    refine ⟨Z', K, B, L, R, pR, M', ?_, ?_, c3⟩
    · unfold f_X7_takeLine
      rw [if_neg z, c1, tx_b2_q, tx_bz_0]
    · unfold f_X12_lineRead f_X12_lineRead_J17
      rw [if_neg (fun w => z ((kn_q hT).2.2.2.mpr w)), c2, tx_b2_q, tx_bz_0]
  have zm : M 0 8 = 1 := (kn_q hT).2.2.2.mp z
  obtain ⟨k, hk20, ek, em⟩ := kn_wrd hT z
  by_cases y7 : k < 7
  rotate_left
  · left
    obtain ⟨Z', M', c1, c2, c3⟩ := bl_q fu Z v h.1.2.1 (LF.refl M) 1
    have s7 : 7 ≤ sw k := by unfold sw; split <;> (try omega); split <;> omega
    have s20 := sw_20 hk20
    refine ⟨Z', K, B, L, R, pR, M', ?_, ?_, c3⟩
    · unfold f_X7_takeLine
      rw [if_pos z, ek, if_neg (show ¬ nI (sw k) = (0 : Int32) from ne_k (b := 0) (by omega) (by omega) (by omega)), if_neg (show ¬ nI (sw k) = (1 : Int32) from ne_k (b := 1) (by omega) (by omega) (by omega)), if_neg (show ¬ nI (sw k) = (2 : Int32) from ne_k (b := 2) (by omega) (by omega) (by omega)), if_neg (show ¬ nI (sw k) = (3 : Int32) from ne_k (b := 3) (by omega) (by omega) (by omega)), if_neg (show ¬ nI (sw k) = (4 : Int32) from ne_k (b := 4) (by omega) (by omega) (by omega)), if_neg (show ¬ nI (sw k) = (5 : Int32) from ne_k (b := 5) (by omega) (by omega) (by omega)), if_neg (show ¬ nI (sw k) = (6 : Int32) from ne_k (b := 6) (by omega) (by omega) (by omega)), c1, tx_b2_q, tx_bz_0]
    · unfold f_X12_lineRead f_X12_lineRead_J17
      rw [if_pos zm, em, if_neg (show ¬ nI k ≤ (6 : Int32) from nI_ge (a := 6) (b := k) (by omega) (by omega)), c2, tx_b2_q, tx_bz_0]
  rw [sw_7 y7] at ek
  rcases lt7 y7 with rfl | rfl | rfl | rfl | rfl | rfl | rfl
  · rcases man_q fu hf v h with ⟨Z', B', K', M', c1, c2, c3⟩ | ⟨Z', B', K', M', nx', c1, c2, c3, c4, c5, c6⟩
    · left
      refine ⟨Z', K', B', L, R, pR, M', ?_, ?_, c3⟩
      · unfold f_X7_takeLine
        rw [if_pos z, ek, if_pos (show nI 0 = (0 : Int32) from rfl), c1, tx_b4_q, tx_bz_0]
      · unfold f_X12_lineRead
        rw [if_pos zm, em, if_pos (show nI 0 ≤ (6 : Int32) by decide), if_pos (show nI 0 = (0 : Int32) from rfl), c2, tx_b2_q]
        rfl
    · right
      refine ⟨Z', K', B', L, R, pR, M', nx', _, _, _, ?_, ?_, c3, c4, c5, c6⟩
      · unfold f_X7_takeLine
        rw [if_pos z, ek, if_pos (show nI 0 = (0 : Int32) from rfl), c1, tx_b4_q, tx_bz_1]
      · unfold f_X12_lineRead
        rw [if_pos zm, em, if_pos (show nI 0 ≤ (6 : Int32) by decide), if_pos (show nI 0 = (0 : Int32) from rfl), c2, tx_b2_q]
  · rcases tho_q fu hf v h with ⟨Z', B', K', M', c1, c2, c3⟩ | ⟨Z', B', K', M', nx', c1, c2, c3, c4, c5, c6⟩
    · left
      refine ⟨Z', K', B', L, R, pR, M', ?_, ?_, c3⟩
      · unfold f_X7_takeLine
        rw [if_pos z, ek, if_neg (show ¬ nI 1 = (0 : Int32) by decide), if_pos (show nI 1 = (1 : Int32) from rfl), c1, tx_b4_q, tx_bz_0]
      · unfold f_X12_lineRead
        rw [if_pos zm, em, if_pos (show nI 1 ≤ (6 : Int32) by decide), if_neg (show ¬ nI 1 = (0 : Int32) by decide), if_pos (show nI 1 = (1 : Int32) from rfl), c2, tx_b2_q]
        rfl
    · right
      refine ⟨Z', K', B', L, R, pR, M', nx', _, _, _, ?_, ?_, c3, c4, c5, c6⟩
      · unfold f_X7_takeLine
        rw [if_pos z, ek, if_neg (show ¬ nI 1 = (0 : Int32) by decide), if_pos (show nI 1 = (1 : Int32) from rfl), c1, tx_b4_q, tx_bz_1]
      · unfold f_X12_lineRead
        rw [if_pos zm, em, if_pos (show nI 1 ≤ (6 : Int32) by decide), if_neg (show ¬ nI 1 = (0 : Int32) by decide), if_pos (show nI 1 = (1 : Int32) from rfl), c2, tx_b2_q]
  · rcases rea_q fu hf v h with ⟨Z', B', K', M', c1, c2, c3⟩ | ⟨Z', B', K', M', nx', c1, c2, c3, c4, c5, c6⟩
    · left
      refine ⟨Z', K', B', L, R, pR, M', ?_, ?_, c3⟩
      · unfold f_X7_takeLine
        rw [if_pos z, ek, if_neg (show ¬ nI 2 = (0 : Int32) by decide), if_neg (show ¬ nI 2 = (1 : Int32) by decide), if_pos (show nI 2 = (2 : Int32) from rfl), c1, tx_b4_q, tx_bz_0]
      · unfold f_X12_lineRead
        rw [if_pos zm, em, if_pos (show nI 2 ≤ (6 : Int32) by decide), if_neg (show ¬ nI 2 = (0 : Int32) by decide), if_neg (show ¬ nI 2 = (1 : Int32) by decide), if_pos (show nI 2 = (2 : Int32) from rfl), c2, tx_b2_q]
        rfl
    · right
      refine ⟨Z', K', B', L, R, pR, M', nx', _, _, _, ?_, ?_, c3, c4, c5, c6⟩
      · unfold f_X7_takeLine
        rw [if_pos z, ek, if_neg (show ¬ nI 2 = (0 : Int32) by decide), if_neg (show ¬ nI 2 = (1 : Int32) by decide), if_pos (show nI 2 = (2 : Int32) from rfl), c1, tx_b4_q, tx_bz_1]
      · unfold f_X12_lineRead
        rw [if_pos zm, em, if_pos (show nI 2 ≤ (6 : Int32) by decide), if_neg (show ¬ nI 2 = (0 : Int32) by decide), if_neg (show ¬ nI 2 = (1 : Int32) by decide), if_pos (show nI 2 = (2 : Int32) from rfl), c2, tx_b2_q]
  · rcases on0_q fu hf v h ek with ⟨Z', B', K', M', c1, c2, c3⟩ | ⟨Z', B', K', M', nx', c1, c2, c3, c4, c5, c6⟩
    · left
      refine ⟨Z', K', B', L, R, pR, M', ?_, ?_, c3⟩
      · unfold f_X7_takeLine
        rw [if_pos z, ek, if_neg (show ¬ nI 3 = (0 : Int32) by decide), if_neg (show ¬ nI 3 = (1 : Int32) by decide), if_neg (show ¬ nI 3 = (2 : Int32) by decide), if_pos (show nI 3 = (3 : Int32) from rfl), c1, tx_b4_q, tx_bz_0]
      · unfold f_X12_lineRead
        rw [if_pos zm, em, if_pos (show nI 3 ≤ (6 : Int32) by decide), if_neg (show ¬ nI 3 = (0 : Int32) by decide), if_neg (show ¬ nI 3 = (1 : Int32) by decide), if_neg (show ¬ nI 3 = (2 : Int32) by decide), if_pos (show nI 3 = (3 : Int32) from rfl), c2, tx_b2_q]
        rfl
    · right
      refine ⟨Z', K', B', L, R, pR, M', nx', _, _, _, ?_, ?_, c3, c4, c5, c6⟩
      · unfold f_X7_takeLine
        rw [if_pos z, ek, if_neg (show ¬ nI 3 = (0 : Int32) by decide), if_neg (show ¬ nI 3 = (1 : Int32) by decide), if_neg (show ¬ nI 3 = (2 : Int32) by decide), if_pos (show nI 3 = (3 : Int32) from rfl), c1, tx_b4_q, tx_bz_1]
      · unfold f_X12_lineRead
        rw [if_pos zm, em, if_pos (show nI 3 ≤ (6 : Int32) by decide), if_neg (show ¬ nI 3 = (0 : Int32) by decide), if_neg (show ¬ nI 3 = (1 : Int32) by decide), if_neg (show ¬ nI 3 = (2 : Int32) by decide), if_pos (show nI 3 = (3 : Int32) from rfl), c2, tx_b2_q]
  · rcases on1_q fu hf v h ek with ⟨Z', B', K', M', c1, c2, c3⟩ | ⟨Z', B', K', M', nx', c1, c2, c3, c4, c5, c6⟩
    · left
      refine ⟨Z', K', B', L, R, pR, M', ?_, ?_, c3⟩
      · unfold f_X7_takeLine
        rw [if_pos z, ek, if_neg (show ¬ nI 4 = (0 : Int32) by decide), if_neg (show ¬ nI 4 = (1 : Int32) by decide), if_neg (show ¬ nI 4 = (2 : Int32) by decide), if_neg (show ¬ nI 4 = (3 : Int32) by decide), if_pos (show nI 4 = (4 : Int32) from rfl), c1, tx_b4_q, tx_bz_0]
      · unfold f_X12_lineRead
        rw [if_pos zm, em, if_pos (show nI 4 ≤ (6 : Int32) by decide), if_neg (show ¬ nI 4 = (0 : Int32) by decide), if_neg (show ¬ nI 4 = (1 : Int32) by decide), if_neg (show ¬ nI 4 = (2 : Int32) by decide), if_neg (show ¬ nI 4 = (3 : Int32) by decide), if_pos (show nI 4 = (4 : Int32) from rfl), c2, tx_b2_q]
        rfl
    · right
      refine ⟨Z', K', B', L, R, pR, M', nx', _, _, _, ?_, ?_, c3, c4, c5, c6⟩
      · unfold f_X7_takeLine
        rw [if_pos z, ek, if_neg (show ¬ nI 4 = (0 : Int32) by decide), if_neg (show ¬ nI 4 = (1 : Int32) by decide), if_neg (show ¬ nI 4 = (2 : Int32) by decide), if_neg (show ¬ nI 4 = (3 : Int32) by decide), if_pos (show nI 4 = (4 : Int32) from rfl), c1, tx_b4_q, tx_bz_1]
      · unfold f_X12_lineRead
        rw [if_pos zm, em, if_pos (show nI 4 ≤ (6 : Int32) by decide), if_neg (show ¬ nI 4 = (0 : Int32) by decide), if_neg (show ¬ nI 4 = (1 : Int32) by decide), if_neg (show ¬ nI 4 = (2 : Int32) by decide), if_neg (show ¬ nI 4 = (3 : Int32) by decide), if_pos (show nI 4 = (4 : Int32) from rfl), c2, tx_b2_q]
  · rcases on2_q fu hf v h ek with ⟨Z', B', K', M', c1, c2, c3⟩ | ⟨Z', B', K', M', nx', c1, c2, c3, c4, c5, c6⟩
    · left
      refine ⟨Z', K', B', L, R, pR, M', ?_, ?_, c3⟩
      · unfold f_X7_takeLine
        rw [if_pos z, ek, if_neg (show ¬ nI 5 = (0 : Int32) by decide), if_neg (show ¬ nI 5 = (1 : Int32) by decide), if_neg (show ¬ nI 5 = (2 : Int32) by decide), if_neg (show ¬ nI 5 = (3 : Int32) by decide), if_neg (show ¬ nI 5 = (4 : Int32) by decide), if_pos (show nI 5 = (5 : Int32) from rfl), c1, tx_b4_q, tx_bz_0]
      · unfold f_X12_lineRead
        rw [if_pos zm, em, if_pos (show nI 5 ≤ (6 : Int32) by decide), if_neg (show ¬ nI 5 = (0 : Int32) by decide), if_neg (show ¬ nI 5 = (1 : Int32) by decide), if_neg (show ¬ nI 5 = (2 : Int32) by decide), if_neg (show ¬ nI 5 = (3 : Int32) by decide), if_neg (show ¬ nI 5 = (4 : Int32) by decide), if_pos (show nI 5 = (5 : Int32) from rfl), c2, tx_b2_q]
        rfl
    · right
      refine ⟨Z', K', B', L, R, pR, M', nx', _, _, _, ?_, ?_, c3, c4, c5, c6⟩
      · unfold f_X7_takeLine
        rw [if_pos z, ek, if_neg (show ¬ nI 5 = (0 : Int32) by decide), if_neg (show ¬ nI 5 = (1 : Int32) by decide), if_neg (show ¬ nI 5 = (2 : Int32) by decide), if_neg (show ¬ nI 5 = (3 : Int32) by decide), if_neg (show ¬ nI 5 = (4 : Int32) by decide), if_pos (show nI 5 = (5 : Int32) from rfl), c1, tx_b4_q, tx_bz_1]
      · unfold f_X12_lineRead
        rw [if_pos zm, em, if_pos (show nI 5 ≤ (6 : Int32) by decide), if_neg (show ¬ nI 5 = (0 : Int32) by decide), if_neg (show ¬ nI 5 = (1 : Int32) by decide), if_neg (show ¬ nI 5 = (2 : Int32) by decide), if_neg (show ¬ nI 5 = (3 : Int32) by decide), if_neg (show ¬ nI 5 = (4 : Int32) by decide), if_pos (show nI 5 = (5 : Int32) from rfl), c2, tx_b2_q]
  · rcases law_q (R := R) fu hf vL v pR pL h zm em with ⟨Z', K', L', R', q, M', c1, c2, c3⟩ | ⟨Z', K', L', R', q, M', nx', c1, c2, c3, c4, c5⟩
    · left
      refine ⟨Z', K', B, L', R', q, M', ?_, c2, c3⟩
      unfold f_X7_takeLine
      rw [if_pos z, ek, if_neg (show ¬ nI 6 = (0 : Int32) by decide), if_neg (show ¬ nI 6 = (1 : Int32) by decide), if_neg (show ¬ nI 6 = (2 : Int32) by decide), if_neg (show ¬ nI 6 = (3 : Int32) by decide), if_neg (show ¬ nI 6 = (4 : Int32) by decide), if_neg (show ¬ nI 6 = (5 : Int32) by decide), if_pos (show nI 6 = (6 : Int32) from rfl), c1, tx_b6_q, tx_bz_0]
    · right
      refine ⟨Z', K', B, L', R', q, M', nx', _, _, _, ?_, c2, c3, c4, c5, rfl⟩
      unfold f_X7_takeLine
      rw [if_pos z, ek, if_neg (show ¬ nI 6 = (0 : Int32) by decide), if_neg (show ¬ nI 6 = (1 : Int32) by decide), if_neg (show ¬ nI 6 = (2 : Int32) by decide), if_neg (show ¬ nI 6 = (3 : Int32) by decide), if_neg (show ¬ nI 6 = (4 : Int32) by decide), if_neg (show ¬ nI 6 = (5 : Int32) by decide), if_pos (show nI 6 = (6 : Int32) from rfl), c1, tx_b6_q, tx_bz_1]
theorem stop_q (fu : Nat) (hf : 1000 ≤ fu) {P Z K B L M M0 : S32} (v : S64) {e nx np nt nr : Nat} (h : TX P Z K B L M e nx np nt nr) (hl : LF M0 M) :
    (∃ Z' M', f_X7_takeStop fu P Z K = some (0, Z', K) ∧ f_X12_lineRead_J221 fu v M 1 = some (0, M') ∧ FT2 Z' M0 M') ∨
    (∃ K' M' nx', f_X7_takeStop fu P Z K = some (1, Z, K') ∧ f_X12_lineRead_J221 fu v M 1 = some (1, M') ∧ TX P Z K' B L M' e nx' np nt nr ∧ LF M0 M' ∧ nx ≤ nx' ∧ (¬ K' 0 4 = 0 → nx < nx')) := by
  unfold f_X7_takeStop f_X12_lineRead_J221
  rcases kn_sg fu v h.1.2.2 with ⟨s1, s2, s3⟩ | ⟨s1, s2⟩
  · right
    obtain ⟨K1, M1, n1, a1, a2, a3, a4, a5, a6, a7, a8⟩ := adv_q fu hf v h.1.1
    rw [s1, s2, tx_b1_q, tx_b1_q, if_neg one_ne, if_neg one_ne, if_neg one_ne, a1, a2, tx_b1_q, tx_b1_q]
    exact ⟨K1, M1, n1, rfl, rfl, TXc h ⟨a3, a4, a5⟩ (h.2.1.e (fun r i _ _ => a6.p (by omega)) (fun i _ _ => a6.p (by omega))) h.2.2.1 (fun r i _ => a6.p (by omega)) (fun i hi => a6.p (by omega)) (fun _ _ => rfl), hl.fm a6, a7, a8⟩
  · left
    obtain ⟨Z', M', c1, c2, c3⟩ := bl_q fu Z v h.1.2.1 hl 1
    rw [s1, s2, tx_b1_q, tx_b1_q, if_pos rfl, if_neg one_ne, if_pos rfl, c1, c2, tx_b2_q, tx_b2_q, tx_bz_0, tx_bz_0]
    exact ⟨Z', M', rfl, rfl, c3⟩
theorem tellL (fu : Nat) (hf : 1000 ≤ fu) {P M0 : S32} (vL v : S64) {e : Nat} (pR pL : Nat) : ∀ m (Z K B L R M : S32) (nx np nt nr i q nf nf' : Nat), TX P Z K B L M e nx np nt nr → LF M0 M → B 0 0 = nI i → i ≤ nx → (¬ K 0 4 = 0 → i < nx) → (¬ K 0 4 = 0 → e + 1 ≤ nx + m) → m < nf → m < nf' →
    (∃ Z' B' L' K' R' q' M', f_X7_tell_L37 fu vL P pR pL nf Z B L K R q (nI i) = some (0, Z', B', L', K', R', q') ∧ f_X12_text_L55 fu nf' M v (nI i) = some (-1, M', v) ∧ FT2 Z' M0 M') ∨
    (∃ Z' B' L' K' R' q' M' nx' np' nt' nr' i', f_X7_tell_L37 fu vL P pR pL nf Z B L K R q (nI i) = some (1, Z', B', L', K', R', q') ∧ f_X12_text_L55 fu nf' M v (nI i) = (tx_b2 (f_X12_keepText fu M' v) fun u w => some (nI i', u, w)) ∧ TX P Z' K' B' L' M' e nx' np' nt' nr' ∧ LF M0 M' ∧ B' 0 0 = nI i') := by
  intro m
  induction m with
  | zero =>
    intro Z K B L R M nx np nt nr i q nf nf' h hl hB h1 h2 h3 h4 h5
    obtain ⟨nf, rfl⟩ := pos_ex h4
    obtain ⟨nf', rfl⟩ := pos_ex h5
    have he : e ≤ 700 := h.1.1.1.1
    have hx : nx ≤ e := h.1.1.2.2.1
    have hw : ¬ (700 : Int32) < nI i := nI_nlt (a := 700) (b := i) (by omega) (by omega)
    by_cases z : K 0 4 = 0
    · refine Or.inr ⟨Z, B, L, K, R, q, M, nx, np, nt, nr, i, ?_, ?_, h, hl, hB⟩
      · show f_X7_tell_J37 _ _ _ _ _ _ _ _ _ _ _ _ _ = _
        unfold f_X7_tell_J37
        rw [if_neg hw, if_pos z]
      · show f_X12_text_J55 _ _ _ _ _ = _
        unfold f_X12_text_J55
        rw [if_pos ((kn_q h.1.2.2).1.mp z)]
    · exact absurd (h3 z) (by omega)
  | succ m ih =>
    intro Z K B L R M nx np nt nr i q nf nf' h hl hB h1 h2 h3 h4 h5
    obtain ⟨nf, rfl⟩ := pos_ex h4
    obtain ⟨nf', rfl⟩ := pos_ex h5
    have he : e ≤ 700 := h.1.1.1.1
    have hx : nx ≤ e := h.1.1.2.2.1
    have hw : ¬ (700 : Int32) < nI i := nI_nlt (a := 700) (b := i) (by omega) (by omega)
    by_cases z : K 0 4 = 0
    · refine Or.inr ⟨Z, B, L, K, R, q, M, nx, np, nt, nr, i, ?_, ?_, h, hl, hB⟩
      · show f_X7_tell_J37 _ _ _ _ _ _ _ _ _ _ _ _ _ = _
        unfold f_X7_tell_J37
        rw [if_neg hw, if_pos z]
      · show f_X12_text_J55 _ _ _ _ _ = _
        unfold f_X12_text_J55
        rw [if_pos ((kn_q h.1.2.2).1.mp z)]
    have z8 : ¬ M 0 8 = 0 := fun w => z ((kn_q h.1.2.2).1.mpr w)
    have d1 : f_X7_tell_L37 fu vL P pR pL (nf + 1) Z B L K R q (nI i) = tx_b7 (f_X7_takeLine fu P vL q pL Z K B L R) fun (r_12 : Int32) (u_T_13 : S32) (u_K_14 : S32) (u_Ba_15 : S32) (u_L_16 : S32) (u_R_17 : S32) (q_18 : Nat) => if r_12 = (0 : Int32) then (some ((0 : Int32), u_T_13, u_Ba_15, u_L_16, u_K_14, u_R_17, q_18)) else (tx_b3 (f_X7_takeStop fu P u_T_13 u_K_14) fun (r_21 : Int32) (u_T_22 : S32) (u_K_23 : S32) => if r_21 = (0 : Int32) then (some ((0 : Int32), u_T_22, u_Ba_15, u_L_16, u_K_23, u_R_17, q_18)) else (f_X7_tell_L37 fu vL P pR pL nf u_T_22 (up2 u_Ba_15 0 0 ((u_Ba_15 0 0) + (1 : Int32))) u_L_16 u_K_23 u_R_17 q_18 (nI i + 1))) := by
      show f_X7_tell_J37 _ _ _ _ _ _ _ _ _ _ _ _ _ = _
      unfold f_X7_tell_J37
      rw [if_neg hw, if_neg z]
      rfl
    have d2 : f_X12_text_L55 fu (nf' + 1) M v (nI i) = tx_b2 (f_X12_lineRead fu v M) fun (r_18 : Int32) (u_T_19 : S32) => if r_18 = (0 : Int32) then (some ((-1 : Int32), u_T_19, v)) else f_X12_text_L55 fu nf' u_T_19 v (nI i + 1) := by
      show f_X12_text_J55 _ _ _ _ _ = _
      unfold f_X12_text_J55
      rw [if_neg z8]
      rfl
    rcases line_q fu hf R vL v q pL h with ⟨Z', K', B', L', R', q', M', c1, c2, c3⟩ | ⟨Z', K', B', L', R', q', M', nx', np', nt', nr', c1, c2, c3, c4, c5, c6⟩
    · left
      refine ⟨Z', B', L', K', R', q', M', ?_, ?_, c3.1, c3.2.1, hl.trans c3.2.2⟩
      · rw [d1, c1, tx_b7_q, if_pos rfl]
      · rw [d2, c2, tx_b2_q, if_pos rfl]
    rcases stop_q fu hf v c3 (hl.trans c4) with ⟨Z2, M2, s1, s2, s3⟩ | ⟨K2, M2, n2, s1, s2, s3, s4, s5, s6⟩
    · left
      refine ⟨Z2, B', L', K', R', q', M2, ?_, ?_, s3⟩
      · rw [d1, c1, tx_b7_q, if_neg one_ne, s1, tx_b3_q, if_pos rfl]
      · rw [d2, c2, s2, tx_b2_q, if_pos rfl]
    have g2 := h2 z
    have g3 := h3 z
    have ih' := ih Z' K2 (up2 B' 0 0 (nI (i + 1))) L' R' M2 n2 np' nt' nr' (i + 1) q' nf nf' (s3.b0 _) s4 (up2_e _ _ _ _) (by omega) (fun w => by have := s6 w; omega) (fun w => by have := s6 w; omega) (by omega) (by omega)
    have q1 : f_X7_tell_L37 fu vL P pR pL (nf + 1) Z B L K R q (nI i) = f_X7_tell_L37 fu vL P pR pL nf Z' (up2 B' 0 0 (nI (i + 1))) L' K2 R' q' (nI (i + 1)) := by
      rw [d1, c1, tx_b7_q, if_neg one_ne, s1, tx_b3_q, if_neg one_ne, c6, hB, nI_1]
    have q2 : f_X12_text_L55 fu (nf' + 1) M v (nI i) = f_X12_text_L55 fu nf' M2 v (nI (i + 1)) := by
      rw [d2, c2, s2, tx_b2_q, if_neg one_ne, nI_1]
    rw [q1, q2]
    exact ih'
