/-! names, and all tokens -/
def it5 : Nat → Int32 → Int32
  | 0, x => x
  | m + 1, x => (it5 m x <<< ((5 : Int32) &&& 31)) ||| 0
theorem s_5 : (((5 : Int32) &&& 31).toBitVec.smod 32).toNat = 5 := by decide +kernel
theorem it5_t (x : Int32) : ∀ m, (it5 m x).toBitVec.toNat = x.toBitVec.toNat * 2 ^ (5 * m) % 2 ^ 32 := by
  intro m
  induction m with
  | zero =>
    show x.toBitVec.toNat = x.toBitVec.toNat * 2 ^ 0 % 2 ^ 32
    have := x.toBitVec.isLt
    rw [Nat.pow_zero, Nat.mul_one, Nat.mod_eq_of_lt this]
  | succ m ih =>
    show ((it5 m x <<< ((5 : Int32) &&& 31)) ||| 0).toBitVec.toNat = _
    rw [Int32.or_zero, pk_shl _ _ 5 s_5, ih, Nat.mul_mod, Nat.mod_mod, ← Nat.mul_mod, Nat.mul_assoc, ← Nat.pow_add]
    rfl
theorem sh_it (x : Int32) {n : Nat} (h1 : 1 ≤ n) (h2 : n ≤ 6) : x <<< (((5 : Int32) * ((6 : Int32) - nI n)) &&& 31) = it5 (6 - n) x := by
  have hs : ((((5 : Int32) * ((6 : Int32) - nI n)) &&& 31).toBitVec.smod 32).toNat = 5 * (6 - n) := by
    have : ∀ n : Fin 7, ((((5 : Int32) * ((6 : Int32) - nI n.1)) &&& 31).toBitVec.smod 32).toNat = 5 * (6 - n.1) := by decide +kernel
    exact this ⟨n, by omega⟩
  apply Int32.toBitVec_inj.1
  apply BitVec.eq_of_toNat_eq
  rw [pk_shl _ _ _ hs, it5_t]
theorem pk_q (fu : Nat) {P M : S32} (v : S64) {a n : Nat} (hn : n ≤ 6) (ha : a + n ≤ 700) (h : ∀ i, i < n → P 1 (a + i) = M 1 (a + i)) : ∀ m i n', i + m = 6 → m < n' → f_X12_packed_L5 fu M v n' (nI a) (nI (a + n)) (if i ≤ n then PW P a i else it5 (i - n) (PW P a n)) (nI (a + i)) = some (it5 (6 - n) (PW P a n)) := by
  intro m
  induction m with
  | zero =>
    intro i n' hi hn'
    obtain ⟨n', rfl⟩ := pos_ex hn'
    have : i = 6 := by omega
    subst this
    show f_X12_packed_J5 _ _ _ _ _ _ _ _ = _
    unfold f_X12_packed_J5
    have e6 : nI a + (6 : Int32) = nI (a + 6) := nI_add a 6
    rw [e6, if_pos (nI_le (Nat.le_refl _) (by omega))]
    by_cases e : 6 ≤ n
    · have : n = 6 := by omega
      subst this
      rw [if_pos (Nat.le_refl _)]
      rfl
    · rw [if_neg e]
  | succ m ih =>
    intro i n' hi hn'
    obtain ⟨n', rfl⟩ := pos_ex hn'
    have ih' := ih (i + 1) n' (by omega) (by omega)
    show f_X12_packed_J5 _ _ _ _ _ _ _ _ = _
    unfold f_X12_packed_J5 f_X12_packed_J37
    have e6 : nI a + (6 : Int32) = nI (a + 6) := nI_add a 6
    rw [e6, if_neg (nI_ge (show a + i < a + 6 by omega) (by omega)), tx_let_q, tx_let_q, tx_let_q, tx_let_q, nI_1]
    by_cases e : i < n
    · rw [if_neg (nI_ge (show a + i < a + n by omega) (by omega)), tx_ck_q (j := a + i) (by omega) (by omega), nI_clamp (n := a + i) (by omega), ← h i e, if_pos (show i ≤ n by omega)]
      rw [if_pos (show i + 1 ≤ n by omega)] at ih'
      have e1 : PW P a (i + 1) = (PW P a i <<< ((5 : Int32) &&& 31)) ||| (P 1 (a + i) - 96) := by
        show (PW P a i <<< ((5 : Int32) &&& 31)) ||| ((P 1 (a + i) - 97) + 1) = _
        congr 1
        generalize P 1 (a + i) = x
        grind
      rw [← e1]
      exact ih'
    · rw [if_pos (nI_le (show a + n ≤ a + i by omega) (by omega))]
      rw [if_neg (show ¬ i + 1 ≤ n by omega), show i + 1 - n = (i - n) + 1 by omega] at ih'
      by_cases e2 : i = n
      · subst e2
        rw [if_pos (Nat.le_refl _)]
        rw [Nat.sub_self] at ih'
        exact ih'
      · rw [if_neg (show ¬ i ≤ n by omega)]
        exact ih'
/-- the token of either -/
def TKr (K M : S32) : Prop :=
  (K 0 4 = 0 ∧ M 0 8 = 0) ∨ (K 0 4 = 1 ∧ (M 0 8 = 6 ∨ (M 0 8 = 4 ∧ M 0 9 = 37))) ∨ (K 0 4 = 2 ∧ M 0 8 = 3 ∧ nmR (K 0 5) (M 0 9)) ∨ (K 0 4 = 3 ∧ M 0 8 = 2 ∧ K 0 5 = M 0 9) ∨
  (K 0 4 = 4 ∧ M 0 8 = 1 ∧ ∃ k, k < 20 ∧ K 0 5 = nI (sw k) ∧ M 0 9 = nI k) ∨
  (K 0 4 = 5 ∧ M 0 8 = 4 ∧ ((K 0 5 = 17 ∧ M 0 9 = 59) ∨ (K 0 5 = 15 ∧ M 0 9 = 40) ∨ (K 0 5 = 16 ∧ M 0 9 = 41) ∨ (K 0 5 = 11 ∧ M 0 9 = 43) ∨ (K 0 5 = 12 ∧ M 0 9 = 45) ∨ (K 0 5 = 13 ∧ M 0 9 = 42) ∨ (K 0 5 = 14 ∧ M 0 9 = 47))) ∨
  (K 0 4 = 5 ∧ M 0 8 = 5 ∧ ∃ a, a < 6 ∧ K 0 5 = nI (5 + a) ∧ M 0 9 = nI a)
theorem wd_run (fu : Nat) {P : S32} (v : S64) {e a : Nat} : ∀ m i K M n n', a + i + m = e → m < n → m < n' → tpR P M e → K 0 1 = nI e → K 0 2 = nI (a + i) → M 0 6 = nI e → M 0 7 = nI (a + i) → ∃ j, i ≤ j ∧ a + j ≤ e ∧ (∀ l, i ≤ l → l < j → ∃ c, M 1 (a + l) = nI c ∧ 97 ≤ c ∧ c ≤ 122) ∧ (∀ c, a + i < e → M 1 (a + i) = nI c → 97 ≤ c → c ≤ 122 → i < j) ∧ f_X8_takeWord_L4 fu P n K (CW P a i) (PW P a i) = f_X8_takeWord_J75 fu P (up2 K 0 2 (nI (a + j))) (CW P a j) (PW P a j) ∧
    f_X12_token_L90 fu v n' M = (tx_b1 (f_X12_wordAt fu (up2 M 0 7 (nI (a + j))) v ((up2 M 0 7 (nI (a + j))) 0 10) ((up2 M 0 7 (nI (a + j))) 0 7)) fun (r_30 : Int32) => tx_let (up2 (up2 M 0 7 (nI (a + j))) 0 9 r_30) fun (u_T_31 : S32) => if (u_T_31 0 9) < (0 : Int32) then (if ((u_T_31 0 7) - (u_T_31 0 10)) ≤ (6 : Int32) then (f_X12_token_J162 fu v u_T_31 (2 : Int32)) else (f_X12_token_J162 fu v u_T_31 (6 : Int32))) else (f_X12_token_J162 fu v u_T_31 (1 : Int32))) := by
  intro m
  induction m with
  | zero =>
    intro i K M n n' hm hn hn' hT k1 k2 m6 m7
    obtain ⟨n, rfl⟩ := pos_ex hn
    obtain ⟨n', rfl⟩ := pos_ex hn'
    have he := hT.1
    refine ⟨i, Nat.le_refl _, by omega, fun l h1 h2 => absurd h2 (by omega), fun c h => absurd h (by omega), ?_, ?_⟩
    · rw [up2_self K k2]
      show f_X8_takeWord_J4 _ _ _ _ _ _ = _
      unfold f_X8_takeWord_J4
      rw [k1, k2, if_pos (nI_le (by omega) (by omega))]
    · rw [up2_self M m7]
      show f_X12_token_J90 _ _ _ _ = _
      unfold f_X12_token_J90
      rw [m7, (let_e fu v m6 he (show e ≤ a + i by omega) (by omega)).1, tx_b1_q, if_pos rfl]
  | succ m ih =>
    intro i K M n n' hm hn hn' hT k1 k2 m6 m7
    obtain ⟨n, rfl⟩ := pos_ex hn
    obtain ⟨n', rfl⟩ := pos_ex hn'
    have he := hT.1
    have hlt : a + i < e := by omega
    obtain ⟨c, hc, hM1, hP1⟩ := ch_q hT hlt
    obtain ⟨d1, d2⟩ := let_q fu v hT m6 hlt hM1 hc
    by_cases z : 97 ≤ c ∧ c ≤ 122
    · rw [if_pos z] at d1 d2
      obtain ⟨j, g1, g2, g3, g4, g5, g6⟩ := ih (i + 1) (up2 K 0 2 (nI (a + (i + 1)))) (up2 M 0 7 (nI (a + (i + 1)))) n n' (by omega) (by omega) (by omega) (hT.fm ((FM.refl M).up _ (by omega))) (by rw [up2_i _ _ _ (by decide)]; exact k1) (up2_e _ _ _ _) (by rw [up2_i _ _ _ (by decide)]; exact m6) (up2_e _ _ _ _)
      rw [up2_up2] at g5 g6
      rw [up2_n _ _ _ (show (1 : Nat) ≠ 0 by decide)] at g3
      refine ⟨j, by omega, g2, fun l h1 h2 => ?_, fun _ _ _ _ _ => by omega, ?_, ?_⟩
      · by_cases el : l = i
        · subst el; exact ⟨c, hM1, z.1, z.2⟩
        · exact g3 l (by omega) h2
      · rw [← g5]
        show f_X8_takeWord_J4 _ _ _ _ _ _ = _
        unfold f_X8_takeWord_J4
        rw [k1, k2, if_neg (nI_ge hlt (by omega)), sg_in fu hT k1 hlt, tx_b1_q, d1, tx_b1_q, if_neg one_ne, tx_b1_q, tx_let_q, tx_b1_q, tx_let_q, tx_let_q, nI_1]
        rfl
      · rw [← g6]
        show f_X12_token_J90 _ _ _ _ = _
        unfold f_X12_token_J90
        rw [m7, d2, tx_b1_q, if_neg one_ne, tx_let_q, nI_1]
        rfl
    · rw [if_neg z] at d1 d2
      refine ⟨i, Nat.le_refl _, by omega, fun l h1 h2 => absurd h2 (by omega), fun c' _ h1 h2 h3 => ?_, ?_, ?_⟩
      · exfalso
        have : c' = c := by
          refine (nI_eq (by omega) (by omega)).mp (h1.symm.trans hM1)
        omega
      · rw [up2_self K k2]
        show f_X8_takeWord_J4 _ _ _ _ _ _ = _
        unfold f_X8_takeWord_J4
        rw [k1, k2, if_neg (nI_ge hlt (by omega)), sg_in fu hT k1 hlt, tx_b1_q, d1, tx_b1_q, if_pos rfl]
      · rw [up2_self M m7]
        show f_X12_token_J90 _ _ _ _ = _
        unfold f_X12_token_J90
        rw [m7, d2, tx_b1_q, if_pos rfl]
/-- where a token ends, and what it is -/
def tkE (K K' M M' : S32) (e nx nx' : Nat) : Prop := nx < nx' ∧ nx' ≤ e ∧ K' 0 1 = nI e ∧ K' 0 2 = nI nx' ∧ K' 0 3 = K 0 3 ∧ M' 0 7 = nI nx' ∧ M' 0 10 = M 0 10 ∧ TKr K' M' ∧ ¬ K' 0 4 = 0 ∧ FM M M'
theorem wtk_q (fu : Nat) (hf : 1000 ≤ fu) {P K M : S32} (v : S64) {e a c : Nat} (hT : tpR P M e) (h4 : ∀ j, j < 105 → M 4 j = wd_X12_104 j) (ha : a < e) (k1 : K 0 1 = nI e) (k2 : K 0 2 = nI a) (k3 : K 0 3 = nI a) (m6 : M 0 6 = nI e) (m7 : M 0 7 = nI a) (m10 : M 0 10 = nI a) (hc : M 1 a = nI c) (hc1 : 97 ≤ c) (hc2 : c ≤ 122) : ∃ K' M' nx', f_X8_takeWord fu P K = some K' ∧ f_X12_token_L90 fu v fu M = some M' ∧ tkE K K' M M' e a nx' := by
  have he := hT.1
  obtain ⟨j, g1, g2, g3, g4, g5, g6⟩ := wd_run fu v (a := a) (e - a) 0 K M fu fu (by omega) (by omega) (by omega) hT k1 k2 m6 m7
  have hj : 0 < j := g4 c ha hc hc1 hc2
  have g5' : f_X8_takeWord fu P K = f_X8_takeWord_J75 fu P (up2 K 0 2 (nI (a + j))) (CW P a j) (PW P a j) := g5
  have hch : ∀ l, l < j → P 1 (a + l) = M 1 (a + l) := fun l hl => by
    obtain ⟨c', h1, h2, h3⟩ := g3 l (by omega) hl
    rw [h1]
    exact ch_eq hT (by omega) h1 (by omega)
  have z10 : (up2 M 0 7 (nI (a + j))) 0 10 = nI a := by rw [up2_i _ _ _ (by decide)]; exact m10
  have z7 : (up2 M 0 7 (nI (a + j))) 0 7 = nI (a + j) := up2_e _ _ _ _
  have y3 : (up2 K 0 2 (nI (a + j))) 0 3 = nI a := by rw [up2_i _ _ _ (by decide)]; exact k3
  have y2 : (up2 K 0 2 (nI (a + j))) 0 2 = nI (a + j) := up2_e _ _ _ _
  have y1 : (up2 K 0 2 (nI (a + j))) 0 1 = nI e := by rw [up2_i _ _ _ (by decide)]; exact k1
  have fm1 : FM M (up2 M 0 7 (nI (a + j))) := (FM.refl M).up _ (by omega)
  have C : f_X8_takeWord fu P K = if 7 < j then f_X8_takeWord_J101 fu P (up2 K 0 2 (nI (a + j))) (PW P a j) (nI j) (-1) else tx_b1 (f_X8_wordOf fu (CW P a j)) fun (r_17 : Int32) => f_X8_takeWord_J101 fu P (up2 K 0 2 (nI (a + j))) (PW P a j) (nI j) r_17 := by
    rw [g5']
    unfold f_X8_takeWord_J75
    rw [tx_let_q, y2, y3, pk_sub (by omega), show a + j - a = j by omega]
    by_cases z : 7 < j
    · rw [if_pos (show (7 : Int32) < nI j from nI_lt (a := 7) z (by omega)), if_pos z]
    · rw [if_neg (show ¬ (7 : Int32) < nI j from nI_nlt (a := 7) (by omega) (by omega)), if_neg z]
  rw [C, g6, z10, z7]
  -- what becomes of it in both
  have word : ∀ k, k < 20 → ∃ K' M' nx', f_X8_takeWord_J101 fu P (up2 K 0 2 (nI (a + j))) (PW P a j) (nI j) (nI (sw k)) = some K' ∧ (tx_let (up2 (up2 M 0 7 (nI (a + j))) 0 9 (nI k)) fun (u_T_31 : S32) => if (u_T_31 0 9) < (0 : Int32) then (if ((u_T_31 0 7) - (u_T_31 0 10)) ≤ (6 : Int32) then (f_X12_token_J162 fu v u_T_31 (2 : Int32)) else (f_X12_token_J162 fu v u_T_31 (6 : Int32))) else (f_X12_token_J162 fu v u_T_31 (1 : Int32))) = some M' ∧ tkE K K' M M' e a nx' := by
    intro k hk
    have hs : sw k < 20 := (w_tab ⟨k, hk⟩).2.2.2.2.2.2.1
    unfold f_X8_takeWord_J101 f_X12_token_J162
    rw [if_neg (m1_ne (by omega)), tx_let_q, tx_let_q, tx_let_q, up2_e, if_neg (nI_pos (by omega)), tx_let_q, up2_e, if_neg (show ¬ (1 : Int32) = 2 by decide)]
    refine ⟨_, _, a + j, rfl, rfl, by omega, g2, ?_, ?_, ?_, ?_, ?_, ?_, ?_, ?_⟩
    · rw [up2_i _ _ _ (by decide), up2_i _ _ _ (by decide)]; exact y1
    · rw [up2_i _ _ _ (by decide), up2_i _ _ _ (by decide)]; exact y2
    · rw [up2_i _ _ _ (by decide), up2_i _ _ _ (by decide), up2_i _ _ _ (by decide)]
    · rw [up2_i _ _ _ (by decide), up2_i _ _ _ (by decide)]; exact z7
    · rw [up2_i _ _ _ (by decide), up2_i _ _ _ (by decide), up2_i _ _ _ (by decide)]
    · refine Or.inr (Or.inr (Or.inr (Or.inr (Or.inl ⟨?_, up2_e _ _ _ _, k, hk, up2_e _ _ _ _, ?_⟩))))
      · rw [up2_i _ _ _ (by decide), up2_e]
      · rw [up2_i _ _ _ (by decide), up2_e]
    · rw [up2_i _ _ _ (by decide), up2_e]; decide
    · exact (fm1.up _ (by omega)).up _ (by omega)
  have none' : ∃ K' M' nx', f_X8_takeWord_J101 fu P (up2 K 0 2 (nI (a + j))) (PW P a j) (nI j) (-1) = some K' ∧ (tx_let (up2 (up2 M 0 7 (nI (a + j))) 0 9 (-1)) fun (u_T_31 : S32) => if (u_T_31 0 9) < (0 : Int32) then (if ((u_T_31 0 7) - (u_T_31 0 10)) ≤ (6 : Int32) then (f_X12_token_J162 fu v u_T_31 (2 : Int32)) else (f_X12_token_J162 fu v u_T_31 (6 : Int32))) else (f_X12_token_J162 fu v u_T_31 (1 : Int32))) = some M' ∧ tkE K K' M M' e a nx' := by
    have w7 : (up2 (up2 M 0 7 (nI (a + j))) 0 9 (-1)) 0 7 = nI (a + j) := by rw [up2_i _ _ _ (by decide)]; exact z7
    have w10 : (up2 (up2 M 0 7 (nI (a + j))) 0 9 (-1)) 0 10 = nI a := by rw [up2_i _ _ _ (by decide)]; exact z10
    unfold f_X8_takeWord_J101 f_X12_token_J162
    rw [if_pos rfl, tx_let_q (up2 (up2 M 0 7 (nI (a + j))) 0 9 (-1)), up2_e, if_pos (show (-1 : Int32) < 0 by decide), w7, w10, pk_sub (by omega), show a + j - a = j by omega]
    by_cases z : 6 < j
    · rw [if_pos (show (6 : Int32) < nI j from nI_lt (a := 6) z (by omega)), if_neg (show ¬ nI j ≤ (6 : Int32) from nI_ge (a := 6) z (by omega)), tx_let_q, tx_let_q, up2_e, if_neg (show ¬ (6 : Int32) = 2 by decide)]
      refine ⟨_, _, a + j, rfl, rfl, by omega, g2, ?_, ?_, ?_, ?_, ?_, ?_, ?_, ?_⟩
      · rw [up2_i _ _ _ (by decide)]; exact y1
      · rw [up2_i _ _ _ (by decide)]; exact y2
      · rw [up2_i _ _ _ (by decide), up2_i _ _ _ (by decide)]
      · rw [up2_i _ _ _ (by decide)]; exact w7
      · rw [up2_i _ _ _ (by decide), up2_i _ _ _ (by decide), up2_i _ _ _ (by decide)]
      · exact Or.inr (Or.inl ⟨up2_e _ _ _ _, Or.inl (up2_e _ _ _ _)⟩)
      · rw [up2_e]; decide
      · exact (fm1.up _ (by omega)).up _ (by omega)
    · have hpk : f_X12_packed fu (up2 (up2 (up2 M 0 7 (nI (a + j))) 0 9 (-1)) 0 8 2) v (nI a) (nI (a + j)) = some (it5 (6 - j) (PW P a j)) := pk_q fu (P := P) v (show j ≤ 6 by omega) (by omega) (fun l hl => by
        rw [up2_n _ _ _ (by decide), up2_n _ _ _ (by decide), up2_n _ _ _ (by decide)]
        exact hch l hl) 6 0 fu (by omega) (by omega)
      have x10 : (up2 (up2 (up2 M 0 7 (nI (a + j))) 0 9 (-1)) 0 8 2) 0 10 = nI a := by rw [up2_i _ _ _ (by decide)]; exact w10
      have x7 : (up2 (up2 (up2 M 0 7 (nI (a + j))) 0 9 (-1)) 0 8 2) 0 7 = nI (a + j) := by rw [up2_i _ _ _ (by decide)]; exact w7
      rw [if_neg (show ¬ (6 : Int32) < nI j from nI_nlt (a := 6) (by omega) (by omega)), if_pos (show nI j ≤ (6 : Int32) from nI_le (b := 6) (by omega) (by omega)), tx_let_q, tx_let_q, tx_let_q, up2_e, if_pos rfl, x10, x7, hpk, tx_b1_q, tx_let_q, sh_it _ (show 1 ≤ j by omega) (show j ≤ 6 by omega)]
      refine ⟨_, _, a + j, rfl, rfl, by omega, g2, ?_, ?_, ?_, ?_, ?_, ?_, ?_, ?_⟩
      · rw [up2_i _ _ _ (by decide), up2_i _ _ _ (by decide)]; exact y1
      · rw [up2_i _ _ _ (by decide), up2_i _ _ _ (by decide)]; exact y2
      · rw [up2_i _ _ _ (by decide), up2_i _ _ _ (by decide), up2_i _ _ _ (by decide)]
      · rw [up2_i _ _ _ (by decide)]; exact x7
      · rw [up2_i _ _ _ (by decide), up2_i _ _ _ (by decide), up2_i _ _ _ (by decide), up2_i _ _ _ (by decide)]
      · refine Or.inr (Or.inr (Or.inr (Or.inl ⟨?_, ?_, ?_⟩)))
        · rw [up2_i _ _ _ (by decide), up2_e]
        · rw [up2_i _ _ _ (by decide), up2_e]
        · rw [up2_e, up2_e]
      · rw [up2_i _ _ _ (by decide), up2_e]; decide
      · exact ((fm1.up _ (by omega)).up _ (by omega)).up _ (by omega)
  by_cases z : 7 < j
  · have R := wa_q fu hf (up2 M 0 7 (nI (a + j))) v (a := a) (b := a + j) (by omega) (by omega) (by rw [up2_n _ _ _ (by decide)]; exact h4) 20 0 fu (by omega) (by omega)
    rcases R with ⟨k, -, k1', k2', -⟩ | ⟨-, r2⟩
    · have hl : wlen k ≤ 7 := (w_tab ⟨k, k1'⟩).2.2.1
      have := k2'.1
      omega
    · have r2' : f_X12_wordAt fu (up2 M 0 7 (nI (a + j))) v (nI a) (nI (a + j)) = some (-1) := r2
      rw [if_pos z, r2', tx_b1_q]
      exact none'
  · rw [if_neg z]
    have hex : ∃ f : Nat → Nat, ∀ i, i < j → M 1 (a + i) = nI (f i) ∧ 97 ≤ f i ∧ f i ≤ 122 := by
      refine ⟨fun i => (M 1 (a + i)).toNatClampNeg, fun i hi => ?_⟩
      obtain ⟨c', h1, h2, h3⟩ := g3 i (by omega) hi
      show M 1 (a + i) = nI ((M 1 (a + i)).toNatClampNeg) ∧ 97 ≤ (M 1 (a + i)).toNatClampNeg ∧ (M 1 (a + i)).toNatClampNeg ≤ 122
      rw [h1, nI_clamp (by omega)]
      exact ⟨rfl, h2, h3⟩
    obtain ⟨f, hfq⟩ := hex
    rcases word_q fu hf (P := P) (M := up2 M 0 7 (nI (a + j))) v (a := a) (f := f) (show j ≤ 7 by omega) (by omega) (by rw [up2_n _ _ _ (by decide)]; exact h4) (fun i hi => by
      rw [up2_n _ _ _ (by decide), hch i hi]
      obtain ⟨q1, q2, q3⟩ := hfq i hi
      exact ⟨q1, q1, q2, q3⟩) with ⟨k, hk, w1, w2⟩ | ⟨w1, w2⟩
    · rw [w1, w2, tx_b1_q, tx_b1_q]
      exact word k hk
    · rw [w1, w2, tx_b1_q, tx_b1_q]
      exact none'
