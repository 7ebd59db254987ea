/-! the first world; what a text told is kept -/
def rv (nr p : Nat) : Int32 := if nr = 0 then -1 else nI (p % nr)
theorem rv_q {nr p : Nat} (h0 : ¬ nr = 0) (hr : nr < 2 ^ 31) (hp : p < 2 ^ 31) : nI p - nI p / nI nr * nI nr = rv nr p := by
  unfold rv
  rw [if_neg h0]
  exact pk_rem hp (by omega) hr
theorem bg_l (fu : Nat) {B : S32} {nr : Nat} (hB : B 0 10 = nI nr) (hnr : nr ≤ 4) (U0 : S32) : ∀ m p n U, p + m = 6 → m < n → (∀ q, q ≠ 10 → U q = U0 q) → (∀ x, x < p → U 10 x = rv nr x) → ∃ U', f_X10_begin_L82 fu B n U (nI p) = f_X10_begin_J82 fu B (fun _ _ => none) U' (nI 6) ∧ (∀ q, q ≠ 10 → U' q = U0 q) ∧ (∀ x, x < 6 → U' 10 x = rv nr x) := by
  intro m
  induction m with
  | zero =>
    intro p n U hp hn h1 h2
    obtain ⟨n, rfl⟩ := pos_ex hn
    have : p = 6 := by omega
    subst this
    refine ⟨U, ?_, h1, h2⟩
    show f_X10_begin_J82 _ _ _ _ _ = _
    unfold f_X10_begin_J82
    rw [if_pos (show (6 : Int32) ≤ nI 6 by decide), if_pos (show (6 : Int32) ≤ nI 6 by decide)]
  | succ m ih =>
    intro p n U hp hn h1 h2
    obtain ⟨n, rfl⟩ := pos_ex hn
    obtain ⟨U', e1, e2, e3⟩ := ih (p + 1) n (up2 U 10 p (rv nr p)) (by omega) (by omega) (fun q hq => by rw [up2_n _ _ _ hq, h1 q hq]) (fun x hx => by
      by_cases e : x = p
      · subst e; rw [up2_e]
      · rw [up2_i _ _ _ e, h2 x (by omega)])
    refine ⟨U', ?_, e2, e3⟩
    rw [← e1]
    show f_X10_begin_J82 _ _ _ _ _ = _
    unfold f_X10_begin_J82 f_X10_begin_J110
    have ck := fun k : Option S32 => tx_ck_q (j := p) (n := 6) (by omega) (by omega) k
    rw [if_neg (ge6 (t := p) (by omega)), hB, ck, ck, tx_let_q, tx_let_q, tx_let_q, tx_let_q, nI_clamp (n := p) (by omega), nI_1]
    by_cases h0 : nr = 0
    · subst h0
      rw [if_pos (by decide)]
      rfl
    · rw [if_neg (nI_nle (n := nr) (by omega) (by omega)), tx_nz_q (nI_ne0 (n := nr) (by omega) (by omega)), rv_q h0 (by omega) (by omega)]
theorem bgn (fu : Nat) (hf : 1000 ≤ fu) {B : S32} (T : S32) {nr : Nat} (hB : B 0 10 = nI nr) (hnr : nr ≤ 4) : ∃ W, f_X10_begin fu B T = some W ∧ W 0 1 = 0 ∧ W 0 2 = B 0 14 ∧ W 0 3 = B 0 16 ∧ W 0 15 = T 0 15 ∧ (∀ p, p < 6 → W 5 p = B 4 p ∧ W 6 p = B 5 p ∧ W 7 p = 0 ∧ W 8 p = 0 ∧ W 9 p = 0 ∧ W 10 p = rv nr p) ∧ (∀ t, t < 12 → W 11 t = 0 ∧ W 12 t = -1 ∧ W 13 t = 0) ∧ (∀ r, r < 4 → W 14 r = B 13 r ∧ W 15 r = B 14 r) := by
  unfold f_X10_begin
  rw [tx_let_q, tx_let_q, tx_let_q, tx_let_q, tx_let_q]
  obtain ⟨U1, a1, a2, a3⟩ := fill_7 fu hf 0 (rw2 (rw2 (up2 (up2 (up2 T 0 1 0) 0 2 (B 0 14)) 0 3 (B 0 16)) 5 (va_cpy (B 4) ((up2 (up2 (up2 T 0 1 0) 0 2 (B 0 14)) 0 3 (B 0 16)) 5) 0 0 6)) 6 (va_cpy (B 5) ((rw2 (up2 (up2 (up2 T 0 1 0) 0 2 (B 0 14)) 0 3 (B 0 16)) 5 (va_cpy (B 4) ((up2 (up2 (up2 T 0 1 0) 0 2 (B 0 14)) 0 3 (B 0 16)) 5) 0 0 6)) 6) 0 0 6))
  obtain ⟨U2, b1, b2, b3⟩ := fill_8 fu hf 0 U1
  obtain ⟨U3, c1, c2, c3⟩ := fill_9 fu hf 0 U2
  obtain ⟨U4, d1, d2, d3⟩ := bg_l fu hB hnr U3 6 0 fu U3 (by omega) (by omega) (fun _ _ => rfl) (fun x hx => absurd hx (by omega))
  obtain ⟨U5, e1, e2, e3⟩ := fill_11 fu hf 0 U4
  obtain ⟨U6, f1, f2, f3⟩ := fill_12 fu hf (-1) U5
  obtain ⟨U7, g1, g2, g3⟩ := fill_13 fu hf 0 U6
  rw [nI_0] at d1
  rw [a1, tx_b1_q, b1, tx_b1_q, c1, tx_b1_q, d1]
  unfold f_X10_begin_J82
  rw [if_pos (show (6 : Int32) ≤ nI 6 by decide), e1, tx_b1_q, f1, tx_b1_q, g1, tx_b1_q, tx_let_q, tx_let_q]
  have z : ∀ q, q ≠ 7 → q ≠ 8 → q ≠ 9 → q ≠ 10 → q ≠ 11 → q ≠ 12 → q ≠ 13 → q ≠ 14 → q ≠ 15 → (rw2 (rw2 U7 14 (va_cpy (B 13) (U7 14) 0 0 4)) 15 (va_cpy (B 14) ((rw2 U7 14 (va_cpy (B 13) (U7 14) 0 0 4)) 15) 0 0 4)) q = (rw2 (rw2 (up2 (up2 (up2 T 0 1 0) 0 2 (B 0 14)) 0 3 (B 0 16)) 5 (va_cpy (B 4) ((up2 (up2 (up2 T 0 1 0) 0 2 (B 0 14)) 0 3 (B 0 16)) 5) 0 0 6)) 6 (va_cpy (B 5) ((rw2 (up2 (up2 (up2 T 0 1 0) 0 2 (B 0 14)) 0 3 (B 0 16)) 5 (va_cpy (B 4) ((up2 (up2 (up2 T 0 1 0) 0 2 (B 0 14)) 0 3 (B 0 16)) 5) 0 0 6)) 6) 0 0 6)) q := by
    intro q h7 h8 h9 h10 h11 h12 h13 h14 h15
    rw [rw2_n _ _ h15, rw2_n _ _ h14, g2 q h13, f2 q h12, e2 q h11, d2 q h10, c2 q h9, b2 q h8, a2 q h7]
  have z0 := z 0 (by decide) (by decide) (by decide) (by decide) (by decide) (by decide) (by decide) (by decide) (by decide)
  have z5 := z 5 (by decide) (by decide) (by decide) (by decide) (by decide) (by decide) (by decide) (by decide) (by decide)
  have z6 := z 6 (by decide) (by decide) (by decide) (by decide) (by decide) (by decide) (by decide) (by decide) (by decide)
  refine ⟨_, rfl, ?_, ?_, ?_, ?_, fun p hp => ⟨?_, ?_, ?_, ?_, ?_, ?_⟩, fun t ht => ⟨?_, ?_, ?_⟩, fun r hr => ⟨?_, ?_⟩⟩
  · rw [z0]; rfl
  · rw [z0]; rfl
  · rw [z0]; rfl
  · rw [z0]; rfl
  · rw [z5, rw2_n _ _ (by decide), rw2_r, pk_cpy_in (by omega) (by omega)]; congr 1; omega
  · rw [z6, rw2_r, pk_cpy_in (by omega) (by omega)]; congr 1; omega
  · rw [rw2_n _ _ (by decide), rw2_n _ _ (by decide), g2 7 (by decide), f2 7 (by decide), e2 7 (by decide), d2 7 (by decide), c2 7 (by decide), b2 7 (by decide), a3 p hp]
  · rw [rw2_n _ _ (by decide), rw2_n _ _ (by decide), g2 8 (by decide), f2 8 (by decide), e2 8 (by decide), d2 8 (by decide), c2 8 (by decide), b3 p hp]
  · rw [rw2_n _ _ (by decide), rw2_n _ _ (by decide), g2 9 (by decide), f2 9 (by decide), e2 9 (by decide), d2 9 (by decide), c3 p hp]
  · rw [rw2_n _ _ (by decide), rw2_n _ _ (by decide), g2 10 (by decide), f2 10 (by decide), e2 10 (by decide), d3 p hp]
  · rw [rw2_n _ _ (by decide), rw2_n _ _ (by decide), g2 11 (by decide), f2 11 (by decide), e3 t ht]
  · rw [rw2_n _ _ (by decide), rw2_n _ _ (by decide), g2 12 (by decide), f3 t ht]
  · rw [rw2_n _ _ (by decide), rw2_n _ _ (by decide), g3 t ht]
  · rw [rw2_n _ _ (by decide), rw2_r, pk_cpy_in (by omega) (by omega)]; congr 1; omega
  · rw [rw2_r, pk_cpy_in (by omega) (by omega)]; congr 1; omega
def atT (M M' : S32) (b t : Nat) : Prop := (∀ r i, ¬ ((r = 50 ∨ r = 51 ∨ r = 52) ∧ 12 * b ≤ i ∧ i < 12 * b + 12) → M' r i = M r i) ∧ ∀ u, u < t → M' 50 (12 * b + u) = 0 ∧ M' 51 (12 * b + u) = -1 ∧ M' 52 (12 * b + u) = 0
def atP (M M' : S32) (b nr t : Nat) : Prop := (∀ r i, ¬ ((53 ≤ r ∧ r ≤ 57) ∧ 6 * b ≤ i ∧ i < 6 * b + 6) → M' r i = M r i) ∧ ∀ u, u < t → M' 53 (6 * b + u) = M 24 u ∧ M' 54 (6 * b + u) = 0 ∧ M' 55 (6 * b + u) = 0 ∧ M' 56 (6 * b + u) = 0 ∧ M' 57 (6 * b + u) = rv nr u
theorem at52 (fu : Nat) (v : S64) (M : S32) {b nr : Nat} (hb : b ≤ 1) (hnr : nr ≤ 4) (h14 : M 0 14 = nI nr) : ∀ m p n M', p + m = 6 → m < n → atP M M' b nr p → ∃ M'', f_X12_atFirst_L52 fu v n M' (nI b) (nI p) = some (up2 (up2 M'' 58 b (M 22 0)) 59 b 0) ∧ atP M M'' b nr 6 := by
  intro m
  induction m with
  | zero =>
    intro p n M' hp hn h
    obtain ⟨n, rfl⟩ := pos_ex hn
    have : p = 6 := by omega
    subst this
    refine ⟨M', ?_, h⟩
    show f_X12_atFirst_J52 _ _ _ _ _ _ = _
    unfold f_X12_atFirst_J52
    have e22 : M' 22 ((0 : Int32).toNatClampNeg) = M 22 0 := h.1 22 0 (by omega)
    rw [if_pos (show (6 : Int32) ≤ nI 6 by decide), ck2 hb, tx_let_q, ck2 hb, tx_let_q, nI_clamp (n := b) (by omega), e22]
  | succ m ih =>
    intro p n M' hp hn h
    obtain ⟨n, rfl⟩ := pos_ex hn
    have ck := fun k : Option S32 => tx_ck_q (j := 6 * b + p) (n := 12) (by omega) (by omega) k
    have dk := fun k : Option S32 => tx_ck_q (j := p) (n := 12) (by omega) (by omega) k
    have e24 : M' 24 p = M 24 p := h.1 24 p (by omega)
    have e14 : M' 0 14 = nI nr := (h.1 0 14 (by omega)).trans h14
    have st : atP M (up2 (up2 (up2 (up2 (up2 M' 53 (6 * b + p) (M 24 p)) 54 (6 * b + p) 0) 55 (6 * b + p) 0) 56 (6 * b + p) 0) 57 (6 * b + p) (rv nr p)) b nr (p + 1) := by
      refine ⟨fun r i hri => ?_, fun u hu => ?_⟩
      · rw [up2_a, if_neg (by omega), up2_a, if_neg (by omega), up2_a, if_neg (by omega), up2_a, if_neg (by omega), up2_a, if_neg (by omega)]
        exact h.1 r i hri
      · by_cases e : u = p
        · subst e
          refine ⟨?_, ?_, ?_, ?_, ?_⟩
          · rw [up2_n _ _ _ (by decide), up2_n _ _ _ (by decide), up2_n _ _ _ (by decide), up2_n _ _ _ (by decide), up2_e]
          · rw [up2_n _ _ _ (by decide), up2_n _ _ _ (by decide), up2_n _ _ _ (by decide), up2_e]
          · rw [up2_n _ _ _ (by decide), up2_n _ _ _ (by decide), up2_e]
          · rw [up2_n _ _ _ (by decide), up2_e]
          · rw [up2_e]
        · have f : ∀ r, (up2 (up2 (up2 (up2 (up2 M' 53 (6 * b + p) (M 24 p)) 54 (6 * b + p) 0) 55 (6 * b + p) 0) 56 (6 * b + p) 0) 57 (6 * b + p) (rv nr p)) r (6 * b + u) = M' r (6 * b + u) := fun r => by
            rw [up2_a, if_neg (by omega), up2_a, if_neg (by omega), up2_a, if_neg (by omega), up2_a, if_neg (by omega), up2_a, if_neg (by omega)]
          rw [f, f, f, f, f]
          exact h.2 u (by omega)
    obtain ⟨M'', e1, e2⟩ := ih (p + 1) n _ (by omega) (by omega) st
    refine ⟨M'', ?_, e2⟩
    rw [← e1]
    show f_X12_atFirst_J52 _ _ _ _ _ _ = _
    unfold f_X12_atFirst_J52 f_X12_atFirst_J138
    have z14 : (up2 (up2 (up2 (up2 M' 53 (6 * b + p) (M 24 p)) 54 (6 * b + p) 0) 55 (6 * b + p) 0) 56 (6 * b + p) 0) 0 14 = nI nr := by
      rw [up2_n _ _ _ (by decide), up2_n _ _ _ (by decide), up2_n _ _ _ (by decide), up2_n _ _ _ (by decide)]
      exact e14
    rw [if_neg (ge6 (t := p) (by omega)), ix6, dk, nI_clamp (n := p) (by omega), nI_clamp (n := 6 * b + p) (by omega), e24, ck, tx_let_q, ck, tx_let_q, ck, tx_let_q, ck, tx_let_q, ck, ck, tx_let_q, tx_let_q, tx_let_q, tx_let_q, z14, nI_1]
    by_cases h0 : nr = 0
    · subst h0
      rw [if_pos (by decide)]
      rfl
    · rw [if_neg (nI_ne0 (n := nr) (by omega) (by omega)), tx_nz_q (nI_ne0 (n := nr) (by omega) (by omega)), rv_q h0 (by omega) (by omega)]
theorem at2 (fu : Nat) (v : S64) (M : S32) {b : Nat} (hb : b ≤ 1) : ∀ m t n M', t + m = 12 → m < n → atT M M' b t → ∃ M'', f_X12_atFirst_L2 fu v n M' (nI b) (nI t) = f_X12_atFirst_L52 fu v fu M'' (nI b) 0 ∧ atT M M'' b 12 := by
  intro m
  induction m with
  | zero =>
    intro t n M' ht hn h
    obtain ⟨n, rfl⟩ := pos_ex hn
    have : t = 12 := by omega
    subst this
    refine ⟨M', ?_, h⟩
    show f_X12_atFirst_J2 _ _ _ _ _ _ = _
    unfold f_X12_atFirst_J2
    rw [if_pos (show (12 : Int32) ≤ nI 12 by decide)]
  | succ m ih =>
    intro t n M' ht hn h
    obtain ⟨n, rfl⟩ := pos_ex hn
    have ck := fun k : Option S32 => tx_ck_q (j := 12 * b + t) (n := 24) (by omega) (by omega) k
    have st : atT M (up2 (up2 (up2 M' 50 (12 * b + t) 0) 51 (12 * b + t) (-1)) 52 (12 * b + t) (0 &&& 1)) b (t + 1) := by
      refine ⟨fun r i hri => ?_, fun u hu => ?_⟩
      · rw [up2_a, if_neg (by omega), up2_a, if_neg (by omega), up2_a, if_neg (by omega)]
        exact h.1 r i hri
      · by_cases e : u = t
        · subst e
          refine ⟨?_, ?_, ?_⟩
          · rw [up2_n _ _ _ (by decide), up2_n _ _ _ (by decide), up2_e]
          · rw [up2_n _ _ _ (by decide), up2_e]
          · rw [up2_e]; rfl
        · have f : ∀ r, (up2 (up2 (up2 M' 50 (12 * b + t) 0) 51 (12 * b + t) (-1)) 52 (12 * b + t) (0 &&& 1)) r (12 * b + u) = M' r (12 * b + u) := fun r => by
            rw [up2_a, if_neg (by omega), up2_a, if_neg (by omega), up2_a, if_neg (by omega)]
          rw [f, f, f]
          exact h.2 u (by omega)
    obtain ⟨M'', e1, e2⟩ := ih (t + 1) n _ (by omega) (by omega) st
    refine ⟨M'', ?_, e2⟩
    rw [← e1]
    show f_X12_atFirst_J2 _ _ _ _ _ _ = _
    unfold f_X12_atFirst_J2
    rw [if_neg (ge12 (t := t) (by omega)), ix12, nI_clamp (n := 12 * b + t) (by omega), ck, tx_let_q, ck, tx_let_q, ck, tx_let_q, tx_let_q, nI_1]
theorem at_q (fu : Nat) (hf : 1000 ≤ fu) (v : S64) (M : S32) {b nr : Nat} (hb : b ≤ 1) (hnr : nr ≤ 4) (h14 : M 0 14 = nI nr) : ∃ M', f_X12_atFirst fu v M (nI b) = some M' ∧ (∀ r i, ¬ ((r = 50 ∨ r = 51 ∨ r = 52) ∧ 12 * b ≤ i ∧ i < 12 * b + 12) → ¬ ((53 ≤ r ∧ r ≤ 57) ∧ 6 * b ≤ i ∧ i < 6 * b + 6) → ¬ ((r = 58 ∨ r = 59) ∧ i = b) → M' r i = M r i) ∧ (∀ u, u < 12 → M' 50 (12 * b + u) = 0 ∧ M' 51 (12 * b + u) = -1 ∧ M' 52 (12 * b + u) = 0) ∧ (∀ u, u < 6 → M' 53 (6 * b + u) = M 24 u ∧ M' 54 (6 * b + u) = 0 ∧ M' 55 (6 * b + u) = 0 ∧ M' 56 (6 * b + u) = 0 ∧ M' 57 (6 * b + u) = rv nr u) ∧ M' 58 b = M 22 0 ∧ M' 59 b = 0 := by
  obtain ⟨M1, a1, a2⟩ := at2 fu v M hb 12 0 fu M (by omega) (by omega) ⟨fun _ _ _ => rfl, fun u hu => absurd hu (by omega)⟩
  have e14 : M1 0 14 = nI nr := (a2.1 0 14 (by omega)).trans h14
  obtain ⟨M2, c1, c2⟩ := at52 fu v M1 hb hnr e14 6 0 fu M1 (by omega) (by omega) ⟨fun _ _ _ => rfl, fun u hu => absurd hu (by omega)⟩
  have e22 : M1 22 0 = M 22 0 := a2.1 22 0 (by omega)
  rw [e22] at c1
  refine ⟨_, a1.trans c1, fun r i h1 h2 h3 => ?_, fun u hu => ?_, fun u hu => ?_, ?_, up2_e _ _ _ _⟩
  · rw [up2_a, if_neg (by omega), up2_a, if_neg (by omega), c2.1 r i h2, a2.1 r i h1]
  · rw [up2_n _ _ _ (by decide), up2_n _ _ _ (by decide), up2_n _ _ _ (by decide), up2_n _ _ _ (by decide), up2_n _ _ _ (by decide), up2_n _ _ _ (by decide), c2.1 50 _ (by omega), c2.1 51 _ (by omega), c2.1 52 _ (by omega)]
    exact a2.2 u hu
  · have g := c2.2 u hu
    rw [a2.1 24 u (by omega)] at g
    rw [up2_n _ _ _ (by decide), up2_n _ _ _ (by decide), up2_n _ _ _ (by decide), up2_n _ _ _ (by decide), up2_n _ _ _ (by decide), up2_n _ _ _ (by decide), up2_n _ _ _ (by decide), up2_n _ _ _ (by decide), up2_n _ _ _ (by decide), up2_n _ _ _ (by decide)]
    exact g
  · rw [up2_n _ _ _ (by decide), up2_e]
theorem cp_22 (fu : Nat) (hf : 1000 ≤ fu) (v : S64) (M : S32) : ∃ M', f_X12_copies_oX12r22 fu v M 3 = some M' ∧ (∀ r, r ≠ 22 → M' r = M r) ∧ (∀ i, i < 3 → M' 22 i = M 22 (3 + i)) ∧ (∀ i, 3 ≤ i → M' 22 i = M 22 i) := by
  have key : ∀ m i n M', i + m = 3 → m < n → (∀ r, r ≠ 22 → M' r = M r) → (∀ j, j < i → M' 22 j = M 22 (3 + j)) → (∀ j, i ≤ j → M' 22 j = M 22 j) → ∃ M'', f_X12_copies_oX12r22_L2 fu v n M' (nI 3) (nI i) = some M'' ∧ (∀ r, r ≠ 22 → M'' r = M r) ∧ (∀ j, j < 3 → M'' 22 j = M 22 (3 + j)) ∧ (∀ j, 3 ≤ j → M'' 22 j = M 22 j) := by
    intro m
    induction m with
    | zero =>
      intro i n M' hi hn h1 h2 h3
      obtain ⟨n, rfl⟩ := pos_ex hn
      refine ⟨M', ?_, h1, fun j hj => h2 j (by omega), fun j hj => h3 j (by omega)⟩
      show f_X12_copies_oX12r22_J2 _ _ _ _ _ _ = _
      unfold f_X12_copies_oX12r22_J2
      rw [if_pos (nI_le (by omega) (by omega))]
    | succ m ih =>
      intro i n M' hi hn h1 h2 h3
      obtain ⟨n, rfl⟩ := pos_ex hn
      obtain ⟨M'', e1, e2⟩ := ih (i + 1) n (up2 M' 22 i (M' 22 (3 + i))) (by omega) (by omega) (fun r hr => by rw [up2_n _ _ _ hr, h1 r hr]) (fun j hj => by
        by_cases e : j = i
        · subst e; rw [up2_e, h3 _ (by omega)]
        · rw [up2_i _ _ _ e, h2 j (by omega)]) (fun j hj => by rw [up2_i _ _ _ (by omega), h3 j (by omega)])
      refine ⟨M'', ?_, e2⟩
      rw [← e1]
      show f_X12_copies_oX12r22_J2 _ _ _ _ _ _ = _
      unfold f_X12_copies_oX12r22_J2
      rw [if_neg (nI_ge (by omega) (by omega)), nI_add, tx_ck_q (j := 3 + i) (by omega) (by omega), tx_ck_q (j := i) (by omega) (by omega), tx_let_q, tx_let_q, nI_clamp (n := i) (by omega), nI_clamp (n := 3 + i) (by omega), nI_1]
  obtain ⟨M', e1, e2⟩ := key 3 0 fu M (by omega) (by omega) (fun _ _ => rfl) (fun j hj => absurd hj (by omega)) (fun _ _ => rfl)
  exact ⟨M', e1, e2⟩
theorem cp_23 (fu : Nat) (hf : 1000 ≤ fu) (v : S64) (M : S32) : ∃ M', f_X12_copies_oX12r23 fu v M 6 = some M' ∧ (∀ r, r ≠ 23 → M' r = M r) ∧ (∀ i, i < 6 → M' 23 i = M 23 (6 + i)) ∧ (∀ i, 6 ≤ i → M' 23 i = M 23 i) := by
  have key : ∀ m i n M', i + m = 6 → m < n → (∀ r, r ≠ 23 → M' r = M r) → (∀ j, j < i → M' 23 j = M 23 (6 + j)) → (∀ j, i ≤ j → M' 23 j = M 23 j) → ∃ M'', f_X12_copies_oX12r23_L2 fu v n M' (nI 6) (nI i) = some M'' ∧ (∀ r, r ≠ 23 → M'' r = M r) ∧ (∀ j, j < 6 → M'' 23 j = M 23 (6 + j)) ∧ (∀ j, 6 ≤ j → M'' 23 j = M 23 j) := by
    intro m
    induction m with
    | zero =>
      intro i n M' hi hn h1 h2 h3
      obtain ⟨n, rfl⟩ := pos_ex hn
      refine ⟨M', ?_, h1, fun j hj => h2 j (by omega), fun j hj => h3 j (by omega)⟩
      show f_X12_copies_oX12r23_J2 _ _ _ _ _ _ = _
      unfold f_X12_copies_oX12r23_J2
      rw [if_pos (nI_le (by omega) (by omega))]
    | succ m ih =>
      intro i n M' hi hn h1 h2 h3
      obtain ⟨n, rfl⟩ := pos_ex hn
      obtain ⟨M'', e1, e2⟩ := ih (i + 1) n (up2 M' 23 i (M' 23 (6 + i))) (by omega) (by omega) (fun r hr => by rw [up2_n _ _ _ hr, h1 r hr]) (fun j hj => by
        by_cases e : j = i
        · subst e; rw [up2_e, h3 _ (by omega)]
        · rw [up2_i _ _ _ e, h2 j (by omega)]) (fun j hj => by rw [up2_i _ _ _ (by omega), h3 j (by omega)])
      refine ⟨M'', ?_, e2⟩
      rw [← e1]
      show f_X12_copies_oX12r23_J2 _ _ _ _ _ _ = _
      unfold f_X12_copies_oX12r23_J2
      rw [if_neg (nI_ge (by omega) (by omega)), nI_add, tx_ck_q (j := 6 + i) (by omega) (by omega), tx_ck_q (j := i) (by omega) (by omega), tx_let_q, tx_let_q, nI_clamp (n := i) (by omega), nI_clamp (n := 6 + i) (by omega), nI_1]
  obtain ⟨M', e1, e2⟩ := key 6 0 fu M (by omega) (by omega) (fun _ _ => rfl) (fun j hj => absurd hj (by omega)) (fun _ _ => rfl)
  exact ⟨M', e1, e2⟩
theorem cp_24 (fu : Nat) (hf : 1000 ≤ fu) (v : S64) (M : S32) : ∃ M', f_X12_copies_oX12r24 fu v M 6 = some M' ∧ (∀ r, r ≠ 24 → M' r = M r) ∧ (∀ i, i < 6 → M' 24 i = M 24 (6 + i)) ∧ (∀ i, 6 ≤ i → M' 24 i = M 24 i) := by
  have key : ∀ m i n M', i + m = 6 → m < n → (∀ r, r ≠ 24 → M' r = M r) → (∀ j, j < i → M' 24 j = M 24 (6 + j)) → (∀ j, i ≤ j → M' 24 j = M 24 j) → ∃ M'', f_X12_copies_oX12r24_L2 fu v n M' (nI 6) (nI i) = some M'' ∧ (∀ r, r ≠ 24 → M'' r = M r) ∧ (∀ j, j < 6 → M'' 24 j = M 24 (6 + j)) ∧ (∀ j, 6 ≤ j → M'' 24 j = M 24 j) := by
    intro m
    induction m with
    | zero =>
      intro i n M' hi hn h1 h2 h3
      obtain ⟨n, rfl⟩ := pos_ex hn
      refine ⟨M', ?_, h1, fun j hj => h2 j (by omega), fun j hj => h3 j (by omega)⟩
      show f_X12_copies_oX12r24_J2 _ _ _ _ _ _ = _
      unfold f_X12_copies_oX12r24_J2
      rw [if_pos (nI_le (by omega) (by omega))]
    | succ m ih =>
      intro i n M' hi hn h1 h2 h3
      obtain ⟨n, rfl⟩ := pos_ex hn
      obtain ⟨M'', e1, e2⟩ := ih (i + 1) n (up2 M' 24 i (M' 24 (6 + i))) (by omega) (by omega) (fun r hr => by rw [up2_n _ _ _ hr, h1 r hr]) (fun j hj => by
        by_cases e : j = i
        · subst e; rw [up2_e, h3 _ (by omega)]
        · rw [up2_i _ _ _ e, h2 j (by omega)]) (fun j hj => by rw [up2_i _ _ _ (by omega), h3 j (by omega)])
      refine ⟨M'', ?_, e2⟩
      rw [← e1]
      show f_X12_copies_oX12r24_J2 _ _ _ _ _ _ = _
      unfold f_X12_copies_oX12r24_J2
      rw [if_neg (nI_ge (by omega) (by omega)), nI_add, tx_ck_q (j := 6 + i) (by omega) (by omega), tx_ck_q (j := i) (by omega) (by omega), tx_let_q, tx_let_q, nI_clamp (n := i) (by omega), nI_clamp (n := 6 + i) (by omega), nI_1]
  obtain ⟨M', e1, e2⟩ := key 6 0 fu M (by omega) (by omega) (fun _ _ => rfl) (fun j hj => absurd hj (by omega)) (fun _ _ => rfl)
  exact ⟨M', e1, e2⟩
theorem cp_25 (fu : Nat) (hf : 1000 ≤ fu) (v : S64) (M : S32) : ∃ M', f_X12_copies_oX12r25 fu v M 6 = some M' ∧ (∀ r, r ≠ 25 → M' r = M r) ∧ (∀ i, i < 6 → M' 25 i = M 25 (6 + i)) ∧ (∀ i, 6 ≤ i → M' 25 i = M 25 i) := by
  have key : ∀ m i n M', i + m = 6 → m < n → (∀ r, r ≠ 25 → M' r = M r) → (∀ j, j < i → M' 25 j = M 25 (6 + j)) → (∀ j, i ≤ j → M' 25 j = M 25 j) → ∃ M'', f_X12_copies_oX12r25_L2 fu v n M' (nI 6) (nI i) = some M'' ∧ (∀ r, r ≠ 25 → M'' r = M r) ∧ (∀ j, j < 6 → M'' 25 j = M 25 (6 + j)) ∧ (∀ j, 6 ≤ j → M'' 25 j = M 25 j) := by
    intro m
    induction m with
    | zero =>
      intro i n M' hi hn h1 h2 h3
      obtain ⟨n, rfl⟩ := pos_ex hn
      refine ⟨M', ?_, h1, fun j hj => h2 j (by omega), fun j hj => h3 j (by omega)⟩
      show f_X12_copies_oX12r25_J2 _ _ _ _ _ _ = _
      unfold f_X12_copies_oX12r25_J2
      rw [if_pos (nI_le (by omega) (by omega))]
    | succ m ih =>
      intro i n M' hi hn h1 h2 h3
      obtain ⟨n, rfl⟩ := pos_ex hn
      obtain ⟨M'', e1, e2⟩ := ih (i + 1) n (up2 M' 25 i (M' 25 (6 + i))) (by omega) (by omega) (fun r hr => by rw [up2_n _ _ _ hr, h1 r hr]) (fun j hj => by
        by_cases e : j = i
        · subst e; rw [up2_e, h3 _ (by omega)]
        · rw [up2_i _ _ _ e, h2 j (by omega)]) (fun j hj => by rw [up2_i _ _ _ (by omega), h3 j (by omega)])
      refine ⟨M'', ?_, e2⟩
      rw [← e1]
      show f_X12_copies_oX12r25_J2 _ _ _ _ _ _ = _
      unfold f_X12_copies_oX12r25_J2
      rw [if_neg (nI_ge (by omega) (by omega)), nI_add, tx_ck_q (j := 6 + i) (by omega) (by omega), tx_ck_q (j := i) (by omega) (by omega), tx_let_q, tx_let_q, nI_clamp (n := i) (by omega), nI_clamp (n := 6 + i) (by omega), nI_1]
  obtain ⟨M', e1, e2⟩ := key 6 0 fu M (by omega) (by omega) (fun _ _ => rfl) (fun j hj => absurd hj (by omega)) (fun _ _ => rfl)
  exact ⟨M', e1, e2⟩
theorem cp_26 (fu : Nat) (hf : 1000 ≤ fu) (v : S64) (M : S32) : ∃ M', f_X12_copies_oX12r26 fu v M 12 = some M' ∧ (∀ r, r ≠ 26 → M' r = M r) ∧ (∀ i, i < 12 → M' 26 i = M 26 (12 + i)) ∧ (∀ i, 12 ≤ i → M' 26 i = M 26 i) := by
  have key : ∀ m i n M', i + m = 12 → m < n → (∀ r, r ≠ 26 → M' r = M r) → (∀ j, j < i → M' 26 j = M 26 (12 + j)) → (∀ j, i ≤ j → M' 26 j = M 26 j) → ∃ M'', f_X12_copies_oX12r26_L2 fu v n M' (nI 12) (nI i) = some M'' ∧ (∀ r, r ≠ 26 → M'' r = M r) ∧ (∀ j, j < 12 → M'' 26 j = M 26 (12 + j)) ∧ (∀ j, 12 ≤ j → M'' 26 j = M 26 j) := by
    intro m
    induction m with
    | zero =>
      intro i n M' hi hn h1 h2 h3
      obtain ⟨n, rfl⟩ := pos_ex hn
      refine ⟨M', ?_, h1, fun j hj => h2 j (by omega), fun j hj => h3 j (by omega)⟩
      show f_X12_copies_oX12r26_J2 _ _ _ _ _ _ = _
      unfold f_X12_copies_oX12r26_J2
      rw [if_pos (nI_le (by omega) (by omega))]
    | succ m ih =>
      intro i n M' hi hn h1 h2 h3
      obtain ⟨n, rfl⟩ := pos_ex hn
      obtain ⟨M'', e1, e2⟩ := ih (i + 1) n (up2 M' 26 i (M' 26 (12 + i))) (by omega) (by omega) (fun r hr => by rw [up2_n _ _ _ hr, h1 r hr]) (fun j hj => by
        by_cases e : j = i
        · subst e; rw [up2_e, h3 _ (by omega)]
        · rw [up2_i _ _ _ e, h2 j (by omega)]) (fun j hj => by rw [up2_i _ _ _ (by omega), h3 j (by omega)])
      refine ⟨M'', ?_, e2⟩
      rw [← e1]
      show f_X12_copies_oX12r26_J2 _ _ _ _ _ _ = _
      unfold f_X12_copies_oX12r26_J2
      rw [if_neg (nI_ge (by omega) (by omega)), nI_add, tx_ck_q (j := 12 + i) (by omega) (by omega), tx_ck_q (j := i) (by omega) (by omega), tx_let_q, tx_let_q, nI_clamp (n := i) (by omega), nI_clamp (n := 12 + i) (by omega), nI_1]
  obtain ⟨M', e1, e2⟩ := key 12 0 fu M (by omega) (by omega) (fun _ _ => rfl) (fun j hj => absurd hj (by omega)) (fun _ _ => rfl)
  exact ⟨M', e1, e2⟩
theorem cp_27 (fu : Nat) (hf : 1000 ≤ fu) (v : S64) (M : S32) : ∃ M', f_X12_copies_oX12r27 fu v M 12 = some M' ∧ (∀ r, r ≠ 27 → M' r = M r) ∧ (∀ i, i < 12 → M' 27 i = M 27 (12 + i)) ∧ (∀ i, 12 ≤ i → M' 27 i = M 27 i) := by
  have key : ∀ m i n M', i + m = 12 → m < n → (∀ r, r ≠ 27 → M' r = M r) → (∀ j, j < i → M' 27 j = M 27 (12 + j)) → (∀ j, i ≤ j → M' 27 j = M 27 j) → ∃ M'', f_X12_copies_oX12r27_L2 fu v n M' (nI 12) (nI i) = some M'' ∧ (∀ r, r ≠ 27 → M'' r = M r) ∧ (∀ j, j < 12 → M'' 27 j = M 27 (12 + j)) ∧ (∀ j, 12 ≤ j → M'' 27 j = M 27 j) := by
    intro m
    induction m with
    | zero =>
      intro i n M' hi hn h1 h2 h3
      obtain ⟨n, rfl⟩ := pos_ex hn
      refine ⟨M', ?_, h1, fun j hj => h2 j (by omega), fun j hj => h3 j (by omega)⟩
      show f_X12_copies_oX12r27_J2 _ _ _ _ _ _ = _
      unfold f_X12_copies_oX12r27_J2
      rw [if_pos (nI_le (by omega) (by omega))]
    | succ m ih =>
      intro i n M' hi hn h1 h2 h3
      obtain ⟨n, rfl⟩ := pos_ex hn
      obtain ⟨M'', e1, e2⟩ := ih (i + 1) n (up2 M' 27 i (M' 27 (12 + i))) (by omega) (by omega) (fun r hr => by rw [up2_n _ _ _ hr, h1 r hr]) (fun j hj => by
        by_cases e : j = i
        · subst e; rw [up2_e, h3 _ (by omega)]
        · rw [up2_i _ _ _ e, h2 j (by omega)]) (fun j hj => by rw [up2_i _ _ _ (by omega), h3 j (by omega)])
      refine ⟨M'', ?_, e2⟩
      rw [← e1]
      show f_X12_copies_oX12r27_J2 _ _ _ _ _ _ = _
      unfold f_X12_copies_oX12r27_J2
      rw [if_neg (nI_ge (by omega) (by omega)), nI_add, tx_ck_q (j := 12 + i) (by omega) (by omega), tx_ck_q (j := i) (by omega) (by omega), tx_let_q, tx_let_q, nI_clamp (n := i) (by omega), nI_clamp (n := 12 + i) (by omega), nI_1]
  obtain ⟨M', e1, e2⟩ := key 12 0 fu M (by omega) (by omega) (fun _ _ => rfl) (fun j hj => absurd hj (by omega)) (fun _ _ => rfl)
  exact ⟨M', e1, e2⟩
theorem cp_28 (fu : Nat) (hf : 1000 ≤ fu) (v : S64) (M : S32) : ∃ M', f_X12_copies_oX12r28 fu v M 12 = some M' ∧ (∀ r, r ≠ 28 → M' r = M r) ∧ (∀ i, i < 12 → M' 28 i = M 28 (12 + i)) ∧ (∀ i, 12 ≤ i → M' 28 i = M 28 i) := by
  have key : ∀ m i n M', i + m = 12 → m < n → (∀ r, r ≠ 28 → M' r = M r) → (∀ j, j < i → M' 28 j = M 28 (12 + j)) → (∀ j, i ≤ j → M' 28 j = M 28 j) → ∃ M'', f_X12_copies_oX12r28_L2 fu v n M' (nI 12) (nI i) = some M'' ∧ (∀ r, r ≠ 28 → M'' r = M r) ∧ (∀ j, j < 12 → M'' 28 j = M 28 (12 + j)) ∧ (∀ j, 12 ≤ j → M'' 28 j = M 28 j) := by
    intro m
    induction m with
    | zero =>
      intro i n M' hi hn h1 h2 h3
      obtain ⟨n, rfl⟩ := pos_ex hn
      refine ⟨M', ?_, h1, fun j hj => h2 j (by omega), fun j hj => h3 j (by omega)⟩
      show f_X12_copies_oX12r28_J2 _ _ _ _ _ _ = _
      unfold f_X12_copies_oX12r28_J2
      rw [if_pos (nI_le (by omega) (by omega))]
    | succ m ih =>
      intro i n M' hi hn h1 h2 h3
      obtain ⟨n, rfl⟩ := pos_ex hn
      obtain ⟨M'', e1, e2⟩ := ih (i + 1) n (up2 M' 28 i (M' 28 (12 + i))) (by omega) (by omega) (fun r hr => by rw [up2_n _ _ _ hr, h1 r hr]) (fun j hj => by
        by_cases e : j = i
        · subst e; rw [up2_e, h3 _ (by omega)]
        · rw [up2_i _ _ _ e, h2 j (by omega)]) (fun j hj => by rw [up2_i _ _ _ (by omega), h3 j (by omega)])
      refine ⟨M'', ?_, e2⟩
      rw [← e1]
      show f_X12_copies_oX12r28_J2 _ _ _ _ _ _ = _
      unfold f_X12_copies_oX12r28_J2
      rw [if_neg (nI_ge (by omega) (by omega)), nI_add, tx_ck_q (j := 12 + i) (by omega) (by omega), tx_ck_q (j := i) (by omega) (by omega), tx_let_q, tx_let_q, nI_clamp (n := i) (by omega), nI_clamp (n := 12 + i) (by omega), nI_1]
  obtain ⟨M', e1, e2⟩ := key 12 0 fu M (by omega) (by omega) (fun _ _ => rfl) (fun j hj => absurd hj (by omega)) (fun _ _ => rfl)
  exact ⟨M', e1, e2⟩
theorem cp_29 (fu : Nat) (hf : 1000 ≤ fu) (v : S64) (M : S32) : ∃ M', f_X12_copies_oX12r29 fu v M 12 = some M' ∧ (∀ r, r ≠ 29 → M' r = M r) ∧ (∀ i, i < 12 → M' 29 i = M 29 (12 + i)) ∧ (∀ i, 12 ≤ i → M' 29 i = M 29 i) := by
  have key : ∀ m i n M', i + m = 12 → m < n → (∀ r, r ≠ 29 → M' r = M r) → (∀ j, j < i → M' 29 j = M 29 (12 + j)) → (∀ j, i ≤ j → M' 29 j = M 29 j) → ∃ M'', f_X12_copies_oX12r29_L2 fu v n M' (nI 12) (nI i) = some M'' ∧ (∀ r, r ≠ 29 → M'' r = M r) ∧ (∀ j, j < 12 → M'' 29 j = M 29 (12 + j)) ∧ (∀ j, 12 ≤ j → M'' 29 j = M 29 j) := by
    intro m
    induction m with
    | zero =>
      intro i n M' hi hn h1 h2 h3
      obtain ⟨n, rfl⟩ := pos_ex hn
      refine ⟨M', ?_, h1, fun j hj => h2 j (by omega), fun j hj => h3 j (by omega)⟩
      show f_X12_copies_oX12r29_J2 _ _ _ _ _ _ = _
      unfold f_X12_copies_oX12r29_J2
      rw [if_pos (nI_le (by omega) (by omega))]
    | succ m ih =>
      intro i n M' hi hn h1 h2 h3
      obtain ⟨n, rfl⟩ := pos_ex hn
      obtain ⟨M'', e1, e2⟩ := ih (i + 1) n (up2 M' 29 i (M' 29 (12 + i))) (by omega) (by omega) (fun r hr => by rw [up2_n _ _ _ hr, h1 r hr]) (fun j hj => by
        by_cases e : j = i
        · subst e; rw [up2_e, h3 _ (by omega)]
        · rw [up2_i _ _ _ e, h2 j (by omega)]) (fun j hj => by rw [up2_i _ _ _ (by omega), h3 j (by omega)])
      refine ⟨M'', ?_, e2⟩
      rw [← e1]
      show f_X12_copies_oX12r29_J2 _ _ _ _ _ _ = _
      unfold f_X12_copies_oX12r29_J2
      rw [if_neg (nI_ge (by omega) (by omega)), nI_add, tx_ck_q (j := 12 + i) (by omega) (by omega), tx_ck_q (j := i) (by omega) (by omega), tx_let_q, tx_let_q, nI_clamp (n := i) (by omega), nI_clamp (n := 12 + i) (by omega), nI_1]
  obtain ⟨M', e1, e2⟩ := key 12 0 fu M (by omega) (by omega) (fun _ _ => rfl) (fun j hj => absurd hj (by omega)) (fun _ _ => rfl)
  exact ⟨M', e1, e2⟩
theorem cp_30 (fu : Nat) (hf : 1000 ≤ fu) (v : S64) (M : S32) : ∃ M', f_X12_copies_oX12r30 fu v M 4 = some M' ∧ (∀ r, r ≠ 30 → M' r = M r) ∧ (∀ i, i < 4 → M' 30 i = M 30 (4 + i)) ∧ (∀ i, 4 ≤ i → M' 30 i = M 30 i) := by
  have key : ∀ m i n M', i + m = 4 → m < n → (∀ r, r ≠ 30 → M' r = M r) → (∀ j, j < i → M' 30 j = M 30 (4 + j)) → (∀ j, i ≤ j → M' 30 j = M 30 j) → ∃ M'', f_X12_copies_oX12r30_L2 fu v n M' (nI 4) (nI i) = some M'' ∧ (∀ r, r ≠ 30 → M'' r = M r) ∧ (∀ j, j < 4 → M'' 30 j = M 30 (4 + j)) ∧ (∀ j, 4 ≤ j → M'' 30 j = M 30 j) := by
    intro m
    induction m with
    | zero =>
      intro i n M' hi hn h1 h2 h3
      obtain ⟨n, rfl⟩ := pos_ex hn
      refine ⟨M', ?_, h1, fun j hj => h2 j (by omega), fun j hj => h3 j (by omega)⟩
      show f_X12_copies_oX12r30_J2 _ _ _ _ _ _ = _
      unfold f_X12_copies_oX12r30_J2
      rw [if_pos (nI_le (by omega) (by omega))]
    | succ m ih =>
      intro i n M' hi hn h1 h2 h3
      obtain ⟨n, rfl⟩ := pos_ex hn
      obtain ⟨M'', e1, e2⟩ := ih (i + 1) n (up2 M' 30 i (M' 30 (4 + i))) (by omega) (by omega) (fun r hr => by rw [up2_n _ _ _ hr, h1 r hr]) (fun j hj => by
        by_cases e : j = i
        · subst e; rw [up2_e, h3 _ (by omega)]
        · rw [up2_i _ _ _ e, h2 j (by omega)]) (fun j hj => by rw [up2_i _ _ _ (by omega), h3 j (by omega)])
      refine ⟨M'', ?_, e2⟩
      rw [← e1]
      show f_X12_copies_oX12r30_J2 _ _ _ _ _ _ = _
      unfold f_X12_copies_oX12r30_J2
      rw [if_neg (nI_ge (by omega) (by omega)), nI_add, tx_ck_q (j := 4 + i) (by omega) (by omega), tx_ck_q (j := i) (by omega) (by omega), tx_let_q, tx_let_q, nI_clamp (n := i) (by omega), nI_clamp (n := 4 + i) (by omega), nI_1]
  obtain ⟨M', e1, e2⟩ := key 4 0 fu M (by omega) (by omega) (fun _ _ => rfl) (fun j hj => absurd hj (by omega)) (fun _ _ => rfl)
  exact ⟨M', e1, e2⟩
theorem cp_31 (fu : Nat) (hf : 1000 ≤ fu) (v : S64) (M : S32) : ∃ M', f_X12_copies_oX12r31 fu v M 4 = some M' ∧ (∀ r, r ≠ 31 → M' r = M r) ∧ (∀ i, i < 4 → M' 31 i = M 31 (4 + i)) ∧ (∀ i, 4 ≤ i → M' 31 i = M 31 i) := by
  have key : ∀ m i n M', i + m = 4 → m < n → (∀ r, r ≠ 31 → M' r = M r) → (∀ j, j < i → M' 31 j = M 31 (4 + j)) → (∀ j, i ≤ j → M' 31 j = M 31 j) → ∃ M'', f_X12_copies_oX12r31_L2 fu v n M' (nI 4) (nI i) = some M'' ∧ (∀ r, r ≠ 31 → M'' r = M r) ∧ (∀ j, j < 4 → M'' 31 j = M 31 (4 + j)) ∧ (∀ j, 4 ≤ j → M'' 31 j = M 31 j) := by
    intro m
    induction m with
    | zero =>
      intro i n M' hi hn h1 h2 h3
      obtain ⟨n, rfl⟩ := pos_ex hn
      refine ⟨M', ?_, h1, fun j hj => h2 j (by omega), fun j hj => h3 j (by omega)⟩
      show f_X12_copies_oX12r31_J2 _ _ _ _ _ _ = _
      unfold f_X12_copies_oX12r31_J2
      rw [if_pos (nI_le (by omega) (by omega))]
    | succ m ih =>
      intro i n M' hi hn h1 h2 h3
      obtain ⟨n, rfl⟩ := pos_ex hn
      obtain ⟨M'', e1, e2⟩ := ih (i + 1) n (up2 M' 31 i (M' 31 (4 + i))) (by omega) (by omega) (fun r hr => by rw [up2_n _ _ _ hr, h1 r hr]) (fun j hj => by
        by_cases e : j = i
        · subst e; rw [up2_e, h3 _ (by omega)]
        · rw [up2_i _ _ _ e, h2 j (by omega)]) (fun j hj => by rw [up2_i _ _ _ (by omega), h3 j (by omega)])
      refine ⟨M'', ?_, e2⟩
      rw [← e1]
      show f_X12_copies_oX12r31_J2 _ _ _ _ _ _ = _
      unfold f_X12_copies_oX12r31_J2
      rw [if_neg (nI_ge (by omega) (by omega)), nI_add, tx_ck_q (j := 4 + i) (by omega) (by omega), tx_ck_q (j := i) (by omega) (by omega), tx_let_q, tx_let_q, nI_clamp (n := i) (by omega), nI_clamp (n := 4 + i) (by omega), nI_1]
  obtain ⟨M', e1, e2⟩ := key 4 0 fu M (by omega) (by omega) (fun _ _ => rfl) (fun j hj => absurd hj (by omega)) (fun _ _ => rfl)
  exact ⟨M', e1, e2⟩
theorem cp_32 (fu : Nat) (hf : 1000 ≤ fu) (v : S64) (M : S32) : ∃ M', f_X12_copies_oX12r32 fu v M 4 = some M' ∧ (∀ r, r ≠ 32 → M' r = M r) ∧ (∀ i, i < 4 → M' 32 i = M 32 (4 + i)) ∧ (∀ i, 4 ≤ i → M' 32 i = M 32 i) := by
  have key : ∀ m i n M', i + m = 4 → m < n → (∀ r, r ≠ 32 → M' r = M r) → (∀ j, j < i → M' 32 j = M 32 (4 + j)) → (∀ j, i ≤ j → M' 32 j = M 32 j) → ∃ M'', f_X12_copies_oX12r32_L2 fu v n M' (nI 4) (nI i) = some M'' ∧ (∀ r, r ≠ 32 → M'' r = M r) ∧ (∀ j, j < 4 → M'' 32 j = M 32 (4 + j)) ∧ (∀ j, 4 ≤ j → M'' 32 j = M 32 j) := by
    intro m
    induction m with
    | zero =>
      intro i n M' hi hn h1 h2 h3
      obtain ⟨n, rfl⟩ := pos_ex hn
      refine ⟨M', ?_, h1, fun j hj => h2 j (by omega), fun j hj => h3 j (by omega)⟩
      show f_X12_copies_oX12r32_J2 _ _ _ _ _ _ = _
      unfold f_X12_copies_oX12r32_J2
      rw [if_pos (nI_le (by omega) (by omega))]
    | succ m ih =>
      intro i n M' hi hn h1 h2 h3
      obtain ⟨n, rfl⟩ := pos_ex hn
      obtain ⟨M'', e1, e2⟩ := ih (i + 1) n (up2 M' 32 i (M' 32 (4 + i))) (by omega) (by omega) (fun r hr => by rw [up2_n _ _ _ hr, h1 r hr]) (fun j hj => by
        by_cases e : j = i
        · subst e; rw [up2_e, h3 _ (by omega)]
        · rw [up2_i _ _ _ e, h2 j (by omega)]) (fun j hj => by rw [up2_i _ _ _ (by omega), h3 j (by omega)])
      refine ⟨M'', ?_, e2⟩
      rw [← e1]
      show f_X12_copies_oX12r32_J2 _ _ _ _ _ _ = _
      unfold f_X12_copies_oX12r32_J2
      rw [if_neg (nI_ge (by omega) (by omega)), nI_add, tx_ck_q (j := 4 + i) (by omega) (by omega), tx_ck_q (j := i) (by omega) (by omega), tx_let_q, tx_let_q, nI_clamp (n := i) (by omega), nI_clamp (n := 4 + i) (by omega), nI_1]
  obtain ⟨M', e1, e2⟩ := key 4 0 fu M (by omega) (by omega) (fun _ _ => rfl) (fun j hj => absurd hj (by omega)) (fun _ _ => rfl)
  exact ⟨M', e1, e2⟩
theorem cp_34 (fu : Nat) (hf : 1000 ≤ fu) (v : S64) (M : S32) : ∃ M', f_X12_copies_oX12r34 fu v M 3 = some M' ∧ (∀ r, r ≠ 34 → M' r = M r) ∧ (∀ i, i < 3 → M' 34 i = M 34 (3 + i)) ∧ (∀ i, 3 ≤ i → M' 34 i = M 34 i) := by
  have key : ∀ m i n M', i + m = 3 → m < n → (∀ r, r ≠ 34 → M' r = M r) → (∀ j, j < i → M' 34 j = M 34 (3 + j)) → (∀ j, i ≤ j → M' 34 j = M 34 j) → ∃ M'', f_X12_copies_oX12r34_L2 fu v n M' (nI 3) (nI i) = some M'' ∧ (∀ r, r ≠ 34 → M'' r = M r) ∧ (∀ j, j < 3 → M'' 34 j = M 34 (3 + j)) ∧ (∀ j, 3 ≤ j → M'' 34 j = M 34 j) := by
    intro m
    induction m with
    | zero =>
      intro i n M' hi hn h1 h2 h3
      obtain ⟨n, rfl⟩ := pos_ex hn
      refine ⟨M', ?_, h1, fun j hj => h2 j (by omega), fun j hj => h3 j (by omega)⟩
      show f_X12_copies_oX12r34_J2 _ _ _ _ _ _ = _
      unfold f_X12_copies_oX12r34_J2
      rw [if_pos (nI_le (by omega) (by omega))]
    | succ m ih =>
      intro i n M' hi hn h1 h2 h3
      obtain ⟨n, rfl⟩ := pos_ex hn
      obtain ⟨M'', e1, e2⟩ := ih (i + 1) n (up2 M' 34 i (M' 34 (3 + i))) (by omega) (by omega) (fun r hr => by rw [up2_n _ _ _ hr, h1 r hr]) (fun j hj => by
        by_cases e : j = i
        · subst e; rw [up2_e, h3 _ (by omega)]
        · rw [up2_i _ _ _ e, h2 j (by omega)]) (fun j hj => by rw [up2_i _ _ _ (by omega), h3 j (by omega)])
      refine ⟨M'', ?_, e2⟩
      rw [← e1]
      show f_X12_copies_oX12r34_J2 _ _ _ _ _ _ = _
      unfold f_X12_copies_oX12r34_J2
      rw [if_neg (nI_ge (by omega) (by omega)), nI_add, tx_ck_q (j := 3 + i) (by omega) (by omega), tx_ck_q (j := i) (by omega) (by omega), tx_let_q, tx_let_q, nI_clamp (n := i) (by omega), nI_clamp (n := 3 + i) (by omega), nI_1]
  obtain ⟨M', e1, e2⟩ := key 3 0 fu M (by omega) (by omega) (fun _ _ => rfl) (fun j hj => absurd hj (by omega)) (fun _ _ => rfl)
  exact ⟨M', e1, e2⟩
theorem cp_35 (fu : Nat) (hf : 1000 ≤ fu) (v : S64) (M : S32) : ∃ M', f_X12_copies_oX12r35 fu v M 3 = some M' ∧ (∀ r, r ≠ 35 → M' r = M r) ∧ (∀ i, i < 3 → M' 35 i = M 35 (3 + i)) ∧ (∀ i, 3 ≤ i → M' 35 i = M 35 i) := by
  have key : ∀ m i n M', i + m = 3 → m < n → (∀ r, r ≠ 35 → M' r = M r) → (∀ j, j < i → M' 35 j = M 35 (3 + j)) → (∀ j, i ≤ j → M' 35 j = M 35 j) → ∃ M'', f_X12_copies_oX12r35_L2 fu v n M' (nI 3) (nI i) = some M'' ∧ (∀ r, r ≠ 35 → M'' r = M r) ∧ (∀ j, j < 3 → M'' 35 j = M 35 (3 + j)) ∧ (∀ j, 3 ≤ j → M'' 35 j = M 35 j) := by
    intro m
    induction m with
    | zero =>
      intro i n M' hi hn h1 h2 h3
      obtain ⟨n, rfl⟩ := pos_ex hn
      refine ⟨M', ?_, h1, fun j hj => h2 j (by omega), fun j hj => h3 j (by omega)⟩
      show f_X12_copies_oX12r35_J2 _ _ _ _ _ _ = _
      unfold f_X12_copies_oX12r35_J2
      rw [if_pos (nI_le (by omega) (by omega))]
    | succ m ih =>
      intro i n M' hi hn h1 h2 h3
      obtain ⟨n, rfl⟩ := pos_ex hn
      obtain ⟨M'', e1, e2⟩ := ih (i + 1) n (up2 M' 35 i (M' 35 (3 + i))) (by omega) (by omega) (fun r hr => by rw [up2_n _ _ _ hr, h1 r hr]) (fun j hj => by
        by_cases e : j = i
        · subst e; rw [up2_e, h3 _ (by omega)]
        · rw [up2_i _ _ _ e, h2 j (by omega)]) (fun j hj => by rw [up2_i _ _ _ (by omega), h3 j (by omega)])
      refine ⟨M'', ?_, e2⟩
      rw [← e1]
      show f_X12_copies_oX12r35_J2 _ _ _ _ _ _ = _
      unfold f_X12_copies_oX12r35_J2
      rw [if_neg (nI_ge (by omega) (by omega)), nI_add, tx_ck_q (j := 3 + i) (by omega) (by omega), tx_ck_q (j := i) (by omega) (by omega), tx_let_q, tx_let_q, nI_clamp (n := i) (by omega), nI_clamp (n := 3 + i) (by omega), nI_1]
  obtain ⟨M', e1, e2⟩ := key 3 0 fu M (by omega) (by omega) (fun _ _ => rfl) (fun j hj => absurd hj (by omega)) (fun _ _ => rfl)
  exact ⟨M', e1, e2⟩
theorem cp_36 (fu : Nat) (hf : 1000 ≤ fu) (v : S64) (M : S32) : ∃ M', f_X12_copies_oX12r36 fu v M 64 = some M' ∧ (∀ r, r ≠ 36 → M' r = M r) ∧ (∀ i, i < 64 → M' 36 i = M 36 (64 + i)) ∧ (∀ i, 64 ≤ i → M' 36 i = M 36 i) := by
  have key : ∀ m i n M', i + m = 64 → m < n → (∀ r, r ≠ 36 → M' r = M r) → (∀ j, j < i → M' 36 j = M 36 (64 + j)) → (∀ j, i ≤ j → M' 36 j = M 36 j) → ∃ M'', f_X12_copies_oX12r36_L2 fu v n M' (nI 64) (nI i) = some M'' ∧ (∀ r, r ≠ 36 → M'' r = M r) ∧ (∀ j, j < 64 → M'' 36 j = M 36 (64 + j)) ∧ (∀ j, 64 ≤ j → M'' 36 j = M 36 j) := by
    intro m
    induction m with
    | zero =>
      intro i n M' hi hn h1 h2 h3
      obtain ⟨n, rfl⟩ := pos_ex hn
      refine ⟨M', ?_, h1, fun j hj => h2 j (by omega), fun j hj => h3 j (by omega)⟩
      show f_X12_copies_oX12r36_J2 _ _ _ _ _ _ = _
      unfold f_X12_copies_oX12r36_J2
      rw [if_pos (nI_le (by omega) (by omega))]
    | succ m ih =>
      intro i n M' hi hn h1 h2 h3
      obtain ⟨n, rfl⟩ := pos_ex hn
      obtain ⟨M'', e1, e2⟩ := ih (i + 1) n (up2 M' 36 i (M' 36 (64 + i))) (by omega) (by omega) (fun r hr => by rw [up2_n _ _ _ hr, h1 r hr]) (fun j hj => by
        by_cases e : j = i
        · subst e; rw [up2_e, h3 _ (by omega)]
        · rw [up2_i _ _ _ e, h2 j (by omega)]) (fun j hj => by rw [up2_i _ _ _ (by omega), h3 j (by omega)])
      refine ⟨M'', ?_, e2⟩
      rw [← e1]
      show f_X12_copies_oX12r36_J2 _ _ _ _ _ _ = _
      unfold f_X12_copies_oX12r36_J2
      rw [if_neg (nI_ge (by omega) (by omega)), nI_add, tx_ck_q (j := 64 + i) (by omega) (by omega), tx_ck_q (j := i) (by omega) (by omega), tx_let_q, tx_let_q, nI_clamp (n := i) (by omega), nI_clamp (n := 64 + i) (by omega), nI_1]
  obtain ⟨M', e1, e2⟩ := key 64 0 fu M (by omega) (by omega) (fun _ _ => rfl) (fun j hj => absurd hj (by omega)) (fun _ _ => rfl)
  exact ⟨M', e1, e2⟩
theorem cp_37 (fu : Nat) (hf : 1000 ≤ fu) (v : S64) (M : S32) : ∃ M', f_X12_copies_oX12r37 fu v M 64 = some M' ∧ (∀ r, r ≠ 37 → M' r = M r) ∧ (∀ i, i < 64 → M' 37 i = M 37 (64 + i)) ∧ (∀ i, 64 ≤ i → M' 37 i = M 37 i) := by
  have key : ∀ m i n M', i + m = 64 → m < n → (∀ r, r ≠ 37 → M' r = M r) → (∀ j, j < i → M' 37 j = M 37 (64 + j)) → (∀ j, i ≤ j → M' 37 j = M 37 j) → ∃ M'', f_X12_copies_oX12r37_L2 fu v n M' (nI 64) (nI i) = some M'' ∧ (∀ r, r ≠ 37 → M'' r = M r) ∧ (∀ j, j < 64 → M'' 37 j = M 37 (64 + j)) ∧ (∀ j, 64 ≤ j → M'' 37 j = M 37 j) := by
    intro m
    induction m with
    | zero =>
      intro i n M' hi hn h1 h2 h3
      obtain ⟨n, rfl⟩ := pos_ex hn
      refine ⟨M', ?_, h1, fun j hj => h2 j (by omega), fun j hj => h3 j (by omega)⟩
      show f_X12_copies_oX12r37_J2 _ _ _ _ _ _ = _
      unfold f_X12_copies_oX12r37_J2
      rw [if_pos (nI_le (by omega) (by omega))]
    | succ m ih =>
      intro i n M' hi hn h1 h2 h3
      obtain ⟨n, rfl⟩ := pos_ex hn
      obtain ⟨M'', e1, e2⟩ := ih (i + 1) n (up2 M' 37 i (M' 37 (64 + i))) (by omega) (by omega) (fun r hr => by rw [up2_n _ _ _ hr, h1 r hr]) (fun j hj => by
        by_cases e : j = i
        · subst e; rw [up2_e, h3 _ (by omega)]
        · rw [up2_i _ _ _ e, h2 j (by omega)]) (fun j hj => by rw [up2_i _ _ _ (by omega), h3 j (by omega)])
      refine ⟨M'', ?_, e2⟩
      rw [← e1]
      show f_X12_copies_oX12r37_J2 _ _ _ _ _ _ = _
      unfold f_X12_copies_oX12r37_J2
      rw [if_neg (nI_ge (by omega) (by omega)), nI_add, tx_ck_q (j := 64 + i) (by omega) (by omega), tx_ck_q (j := i) (by omega) (by omega), tx_let_q, tx_let_q, nI_clamp (n := i) (by omega), nI_clamp (n := 64 + i) (by omega), nI_1]
  obtain ⟨M', e1, e2⟩ := key 64 0 fu M (by omega) (by omega) (fun _ _ => rfl) (fun j hj => absurd hj (by omega)) (fun _ _ => rfl)
  exact ⟨M', e1, e2⟩
theorem cp_38 (fu : Nat) (hf : 1000 ≤ fu) (v : S64) (M : S32) : ∃ M', f_X12_copies_oX12r38 fu v M 64 = some M' ∧ (∀ r, r ≠ 38 → M' r = M r) ∧ (∀ i, i < 64 → M' 38 i = M 38 (64 + i)) ∧ (∀ i, 64 ≤ i → M' 38 i = M 38 i) := by
  have key : ∀ m i n M', i + m = 64 → m < n → (∀ r, r ≠ 38 → M' r = M r) → (∀ j, j < i → M' 38 j = M 38 (64 + j)) → (∀ j, i ≤ j → M' 38 j = M 38 j) → ∃ M'', f_X12_copies_oX12r38_L2 fu v n M' (nI 64) (nI i) = some M'' ∧ (∀ r, r ≠ 38 → M'' r = M r) ∧ (∀ j, j < 64 → M'' 38 j = M 38 (64 + j)) ∧ (∀ j, 64 ≤ j → M'' 38 j = M 38 j) := by
    intro m
    induction m with
    | zero =>
      intro i n M' hi hn h1 h2 h3
      obtain ⟨n, rfl⟩ := pos_ex hn
      refine ⟨M', ?_, h1, fun j hj => h2 j (by omega), fun j hj => h3 j (by omega)⟩
      show f_X12_copies_oX12r38_J2 _ _ _ _ _ _ = _
      unfold f_X12_copies_oX12r38_J2
      rw [if_pos (nI_le (by omega) (by omega))]
    | succ m ih =>
      intro i n M' hi hn h1 h2 h3
      obtain ⟨n, rfl⟩ := pos_ex hn
      obtain ⟨M'', e1, e2⟩ := ih (i + 1) n (up2 M' 38 i (M' 38 (64 + i))) (by omega) (by omega) (fun r hr => by rw [up2_n _ _ _ hr, h1 r hr]) (fun j hj => by
        by_cases e : j = i
        · subst e; rw [up2_e, h3 _ (by omega)]
        · rw [up2_i _ _ _ e, h2 j (by omega)]) (fun j hj => by rw [up2_i _ _ _ (by omega), h3 j (by omega)])
      refine ⟨M'', ?_, e2⟩
      rw [← e1]
      show f_X12_copies_oX12r38_J2 _ _ _ _ _ _ = _
      unfold f_X12_copies_oX12r38_J2
      rw [if_neg (nI_ge (by omega) (by omega)), nI_add, tx_ck_q (j := 64 + i) (by omega) (by omega), tx_ck_q (j := i) (by omega) (by omega), tx_let_q, tx_let_q, nI_clamp (n := i) (by omega), nI_clamp (n := 64 + i) (by omega), nI_1]
  obtain ⟨M', e1, e2⟩ := key 64 0 fu M (by omega) (by omega) (fun _ _ => rfl) (fun j hj => absurd hj (by omega)) (fun _ _ => rfl)
  exact ⟨M', e1, e2⟩
