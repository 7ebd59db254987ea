/-! what a text has told, in both -/
def bkU (B M : S32) (np nt nr : Nat) : Prop :=
  (np ≤ 6 ∧ nt ≤ 12 ∧ nr ≤ 4) ∧
  (B 0 1 = nI np ∧ M 0 16 = nI np) ∧ (B 0 5 = nI nt ∧ M 0 17 = nI nt) ∧ (B 0 10 = nI nr ∧ M 0 18 = nI nr) ∧
  (∀ p, p < np → B 3 p = M 23 (6 + p) ∧ B 4 p = M 24 (6 + p) ∧ B 5 p = M 25 (6 + p)) ∧
  (∀ t, t < nt → B 7 t = M 26 (12 + t) ∧ B 8 t = M 27 (12 + t) ∧ B 9 t = M 28 (12 + t) ∧ B 10 t = M 29 (12 + t)) ∧
  (∀ r, r < nr → B 12 r = M 30 (4 + r) ∧ B 13 r = M 31 (4 + r) ∧ B 14 r = M 32 (4 + r)) ∧
  (B 0 14 = M 22 3 ∧ B 0 15 = M 22 4 ∧ B 0 16 = M 22 5)
def hfM (M : S32) : S32 := fun r i => M r (64 + i)
def lwU (L M : S32) : Prop := ∃ n, n ≤ 64 ∧ L 0 5 = nI n ∧ M 0 19 = nI n ∧
  (∀ i, i < n → L 1 i = knK (M 36 (64 + i)) ∧ (M 36 (64 + i) = 0 ∨ M 36 (64 + i) = 1 → L 2 i = M 37 (64 + i))) ∧
  ∀ j, j < 3 → (L 3 j = -1 ∧ M 33 (3 + j) = 0) ∨ (M 33 (3 + j) = 1 ∧ ∃ a b, a < b ∧ b ≤ n ∧ L 3 j = nI a ∧ L 4 j = nI b ∧ M 34 (3 + j) = nI a ∧ M 35 (3 + j) = nI b ∧ knW (hfM M) (b - a) a [])
theorem knW.e {M M' : S32} (e : ∀ r i, 36 ≤ r → r ≤ 38 → i < 64 → M' r i = M r i) : ∀ n i st, i + n ≤ 64 → knW M n i st → knW M' n i st := by
  intro n
  induction n with
  | zero => intro i st _ h; exact h
  | succ n ih =>
    intro i st hi h
    unfold knW
    rw [e 36 i (by omega) (by omega) (by omega), e 37 i (by omega) (by omega) (by omega), e 38 i (by omega) (by omega) (by omega)]
    rcases h with ⟨a, b, c⟩ | ⟨a, b, c⟩ | ⟨a, x, s, b, c, d⟩ | ⟨a, y, x, s, b, c, d, f⟩
    · exact Or.inl ⟨a, b, ih _ _ (by omega) c⟩
    · exact Or.inr (Or.inl ⟨a, b, ih _ _ (by omega) c⟩)
    · exact Or.inr (Or.inr (Or.inl ⟨a, x, s, b, c, ih _ _ (by omega) d⟩))
    · exact Or.inr (Or.inr (Or.inr ⟨a, y, x, s, b, c, d, ih _ _ (by omega) f⟩))
theorem kt33 (fu : Nat) (M : S32) (v : S64) (h01 : ∀ j, j < 3 → M 33 (3 + j) = 0 ∨ M 33 (3 + j) = 1) : ∀ m j n M', j + m = 3 → m < n → (∀ r, r ≠ 33 → M' r = M r) → (∀ i, i < j → M' 33 i = M 33 (3 + i)) → (∀ i, 3 ≤ i → M' 33 i = M 33 i) → ∃ M'', f_X12_keepText_L129 fu n M' v (nI j) = f_X12_keepText_J129 fu (fun _ _ _ => none) M'' v (nI 3) ∧ (∀ r, r ≠ 33 → M'' r = M r) ∧ (∀ i, i < 3 → M'' 33 i = M 33 (3 + i)) := by
  intro m
  induction m with
  | zero =>
    intro j n M' hj hn h1 h2 h3
    obtain ⟨n, rfl⟩ := pos_ex hn
    have : j = 3 := by omega
    subst this
    refine ⟨M', ?_, h1, h2⟩
    show f_X12_keepText_J129 _ _ _ _ _ = _
    unfold f_X12_keepText_J129
    rw [if_pos (show (3 : Int32) ≤ nI 3 by decide), if_pos (show (3 : Int32) ≤ nI 3 by decide)]
  | succ m ih =>
    intro j n M' hj hn h1 h2 h3
    obtain ⟨n, rfl⟩ := pos_ex hn
    have e33 : M' 33 (3 + j) &&& 1 = M 33 (3 + j) := by
      rw [h3 _ (by omega)]
      exact and1 (h01 j (by omega))
    obtain ⟨M'', e1, e2⟩ := ih (j + 1) n (up2 M' 33 j (M 33 (3 + j))) (by omega) (by omega) (fun r hr => by rw [up2_n _ _ _ hr, h1 r hr]) (fun i hi => by
      by_cases e : i = j
      · subst e; rw [up2_e]
      · rw [up2_i _ _ _ e, h2 i (by omega)]) (fun i hi => by rw [up2_i _ _ _ (by omega), h3 i hi])
    refine ⟨M'', ?_, e2⟩
    rw [← e1]
    show f_X12_keepText_J129 _ _ _ _ _ = _
    unfold f_X12_keepText_J129
    have a1 : (3 : Int32) + nI j = nI (3 + j) := nI_add 3 j
    rw [if_neg (show ¬ (3 : Int32) ≤ nI j from nI_ge (b := 3) (by omega) (by omega)), a1, tx_ck_q (j := 3 + j) (by omega) (by omega), tx_ck_q (j := j) (by omega) (by omega), tx_let_q, tx_let_q, nI_clamp (n := j) (by omega), nI_clamp (n := 3 + j) (by omega), e33, nI_1]
theorem keep_q (fu : Nat) (hf : 1000 ≤ fu) (M : S32) (v : S64) {nr : Nat} (hnr : nr ≤ 4) (h18 : M 0 18 = nI nr) (h01 : ∀ j, j < 3 → M 33 (3 + j) = 0 ∨ M 33 (3 + j) = 1) : ∃ M', f_X12_keepText fu M v = some (M', up4 v 0 59 (M 22 5).toInt64) ∧
    (M' 0 12 = M 0 16 ∧ M' 0 13 = M 0 17 ∧ M' 0 14 = M 0 18 ∧ M' 0 15 = M 0 19) ∧ (∀ i, i = 1 ∨ i = 4 ∨ i = 5 → M' 0 i = M 0 i) ∧ (M' 0 71 = 0 ∧ M' 0 72 = -1 ∧ M' 0 75 = 0 ∧ M' 0 77 = 0) ∧ (∀ r, r ≠ 0 → r < 22 ∨ 59 < r → M' r = M r) ∧
    (∀ i, i < 3 → M' 22 i = M 22 (3 + i) ∧ M' 33 i = M 33 (3 + i) ∧ M' 34 i = M 34 (3 + i) ∧ M' 35 i = M 35 (3 + i)) ∧ (∀ i, i < 6 → M' 23 i = M 23 (6 + i) ∧ M' 24 i = M 24 (6 + i) ∧ M' 25 i = M 25 (6 + i)) ∧ (∀ i, i < 12 → M' 26 i = M 26 (12 + i) ∧ M' 27 i = M 27 (12 + i) ∧ M' 28 i = M 28 (12 + i) ∧ M' 29 i = M 29 (12 + i)) ∧ (∀ i, i < 4 → M' 30 i = M 30 (4 + i) ∧ M' 31 i = M 31 (4 + i) ∧ M' 32 i = M 32 (4 + i)) ∧ (∀ i, i < 64 → M' 36 i = M 36 (64 + i) ∧ M' 37 i = M 37 (64 + i) ∧ M' 38 i = M 38 (64 + i)) ∧
    (∀ u, u < 12 → M' 50 u = 0 ∧ M' 51 u = -1 ∧ M' 52 u = 0) ∧ (∀ u, u < 6 → M' 53 u = M 24 (6 + u) ∧ M' 54 u = 0 ∧ M' 55 u = 0 ∧ M' 56 u = 0 ∧ M' 57 u = rv nr u) ∧ M' 58 0 = M 22 3 ∧ M' 59 0 = 0 := by
  unfold f_X12_keepText
  rw [tx_let_q, tx_let_q, tx_let_q, tx_let_q]
  obtain ⟨M0, q0⟩ : ∃ M0, M0 = up2 (up2 (up2 (up2 M 0 12 (M 0 16)) 0 13 ((up2 M 0 12 (M 0 16)) 0 17)) 0 14 ((up2 (up2 M 0 12 (M 0 16)) 0 13 ((up2 M 0 12 (M 0 16)) 0 17)) 0 18)) 0 15 ((up2 (up2 (up2 M 0 12 (M 0 16)) 0 13 ((up2 M 0 12 (M 0 16)) 0 17)) 0 14 ((up2 (up2 M 0 12 (M 0 16)) 0 13 ((up2 M 0 12 (M 0 16)) 0 17)) 0 18)) 0 19) := ⟨_, rfl⟩
  rw [← q0]
  have z0 : ∀ r, r ≠ 0 → M0 r = M r := fun r h => by rw [q0, up2_n _ _ _ h, up2_n _ _ _ h, up2_n _ _ _ h, up2_n _ _ _ h]
  have z1 : M0 0 12 = M 0 16 ∧ M0 0 13 = M 0 17 ∧ M0 0 14 = M 0 18 ∧ M0 0 15 = M 0 19 := by rw [q0]; exact ⟨rfl, rfl, rfl, rfl⟩
  have z2 : ∀ i, i = 1 ∨ i = 4 ∨ i = 5 → M0 0 i = M 0 i := fun i h => by rw [q0, up2_i _ _ _ (by omega), up2_i _ _ _ (by omega), up2_i _ _ _ (by omega), up2_i _ _ _ (by omega)]
  clear q0
  obtain ⟨M22, a22, b22, c22, d22⟩ := cp_22 fu hf v M0
  obtain ⟨M23, a23, b23, c23, d23⟩ := cp_23 fu hf v M22
  obtain ⟨M24, a24, b24, c24, d24⟩ := cp_24 fu hf v M23
  obtain ⟨M25, a25, b25, c25, d25⟩ := cp_25 fu hf v M24
  obtain ⟨M26, a26, b26, c26, d26⟩ := cp_26 fu hf v M25
  obtain ⟨M27, a27, b27, c27, d27⟩ := cp_27 fu hf v M26
  obtain ⟨M28, a28, b28, c28, d28⟩ := cp_28 fu hf v M27
  obtain ⟨M29, a29, b29, c29, d29⟩ := cp_29 fu hf v M28
  obtain ⟨M30, a30, b30, c30, d30⟩ := cp_30 fu hf v M29
  obtain ⟨M31, a31, b31, c31, d31⟩ := cp_31 fu hf v M30
  obtain ⟨M32, a32, b32, c32, d32⟩ := cp_32 fu hf v M31
  have y32 : ∀ r, r < 22 ∨ 32 < r → M32 r = M0 r := fun r h => by
    rw [b32 r (by omega), b31 r (by omega), b30 r (by omega), b29 r (by omega), b28 r (by omega), b27 r (by omega), b26 r (by omega), b25 r (by omega), b24 r (by omega), b23 r (by omega), b22 r (by omega)]
  obtain ⟨M33, a33, b33, c33⟩ := kt33 fu M32 v (fun j hj => by rw [y32 33 (by omega), z0 33 (by decide)]; exact h01 j hj) 3 0 fu M32 (by omega) (by omega) (fun _ _ => rfl) (fun i hi => absurd hi (by omega)) (fun _ _ => rfl)
  obtain ⟨M34, a34, b34, c34, d34⟩ := cp_34 fu hf v M33
  obtain ⟨M35, a35, b35, c35, d35⟩ := cp_35 fu hf v M34
  obtain ⟨M36, a36, b36, c36, d36⟩ := cp_36 fu hf v M35
  obtain ⟨M37, a37, b37, c37, d37⟩ := cp_37 fu hf v M36
  obtain ⟨M38, a38, b38, c38, d38⟩ := cp_38 fu hf v M37
  have y38 : ∀ r, r < 33 ∨ 38 < r → M38 r = M32 r := fun r h => by
    rw [b38 r (by omega), b37 r (by omega), b36 r (by omega), b35 r (by omega), b34 r (by omega), b33 r (by omega)]
  have yy : ∀ r, r < 22 ∨ 38 < r → M38 r = M0 r := fun r h => by rw [y38 r (by omega), y32 r (by omega)]
  have e14 : M38 0 14 = nI nr := by rw [yy 0 (by omega), z1.2.2.1]; exact h18
  obtain ⟨Mf, f1, f2, f3, f4, f5, f6⟩ := at_q fu hf v M38 (b := 0) (nr := nr) (by omega) hnr e14
  have ff : ∀ r, r < 50 ∨ 59 < r → Mf r = M38 r := fun r h => by
    funext i
    exact f2 r i (by omega) (by omega) (by omega)
  have f1' : f_X12_atFirst fu v M38 0 = some Mf := f1
  -- the rows told
  have r22 : ∀ i, i < 3 → M38 22 i = M 22 (3 + i) := fun i hi => by
    rw [y38 22 (by omega), b32 22 (by omega), b31 22 (by omega), b30 22 (by omega), b29 22 (by omega), b28 22 (by omega), b27 22 (by omega), b26 22 (by omega), b25 22 (by omega), b24 22 (by omega), b23 22 (by omega), c22 i hi, z0 22 (by decide)]
  have r23 : ∀ i, i < 6 → M38 23 i = M 23 (6 + i) := fun i hi => by
    rw [y38 23 (by omega), b32 23 (by omega), b31 23 (by omega), b30 23 (by omega), b29 23 (by omega), b28 23 (by omega), b27 23 (by omega), b26 23 (by omega), b25 23 (by omega), b24 23 (by omega), c23 i hi, b22 23 (by omega), z0 23 (by decide)]
  have r24 : ∀ i, i < 6 → M38 24 i = M 24 (6 + i) := fun i hi => by
    rw [y38 24 (by omega), b32 24 (by omega), b31 24 (by omega), b30 24 (by omega), b29 24 (by omega), b28 24 (by omega), b27 24 (by omega), b26 24 (by omega), b25 24 (by omega), c24 i hi, b23 24 (by omega), b22 24 (by omega), z0 24 (by decide)]
  have r25 : ∀ i, i < 6 → M38 25 i = M 25 (6 + i) := fun i hi => by
    rw [y38 25 (by omega), b32 25 (by omega), b31 25 (by omega), b30 25 (by omega), b29 25 (by omega), b28 25 (by omega), b27 25 (by omega), b26 25 (by omega), c25 i hi, b24 25 (by omega), b23 25 (by omega), b22 25 (by omega), z0 25 (by decide)]
  have r26 : ∀ i, i < 12 → M38 26 i = M 26 (12 + i) := fun i hi => by
    rw [y38 26 (by omega), b32 26 (by omega), b31 26 (by omega), b30 26 (by omega), b29 26 (by omega), b28 26 (by omega), b27 26 (by omega), c26 i hi, b25 26 (by omega), b24 26 (by omega), b23 26 (by omega), b22 26 (by omega), z0 26 (by decide)]
  have r27 : ∀ i, i < 12 → M38 27 i = M 27 (12 + i) := fun i hi => by
    rw [y38 27 (by omega), b32 27 (by omega), b31 27 (by omega), b30 27 (by omega), b29 27 (by omega), b28 27 (by omega), c27 i hi, b26 27 (by omega), b25 27 (by omega), b24 27 (by omega), b23 27 (by omega), b22 27 (by omega), z0 27 (by decide)]
  have r28 : ∀ i, i < 12 → M38 28 i = M 28 (12 + i) := fun i hi => by
    rw [y38 28 (by omega), b32 28 (by omega), b31 28 (by omega), b30 28 (by omega), b29 28 (by omega), c28 i hi, b27 28 (by omega), b26 28 (by omega), b25 28 (by omega), b24 28 (by omega), b23 28 (by omega), b22 28 (by omega), z0 28 (by decide)]
  have r29 : ∀ i, i < 12 → M38 29 i = M 29 (12 + i) := fun i hi => by
    rw [y38 29 (by omega), b32 29 (by omega), b31 29 (by omega), b30 29 (by omega), c29 i hi, b28 29 (by omega), b27 29 (by omega), b26 29 (by omega), b25 29 (by omega), b24 29 (by omega), b23 29 (by omega), b22 29 (by omega), z0 29 (by decide)]
  have r30 : ∀ i, i < 4 → M38 30 i = M 30 (4 + i) := fun i hi => by
    rw [y38 30 (by omega), b32 30 (by omega), b31 30 (by omega), c30 i hi, b29 30 (by omega), b28 30 (by omega), b27 30 (by omega), b26 30 (by omega), b25 30 (by omega), b24 30 (by omega), b23 30 (by omega), b22 30 (by omega), z0 30 (by decide)]
  have r31 : ∀ i, i < 4 → M38 31 i = M 31 (4 + i) := fun i hi => by
    rw [y38 31 (by omega), b32 31 (by omega), c31 i hi, b30 31 (by omega), b29 31 (by omega), b28 31 (by omega), b27 31 (by omega), b26 31 (by omega), b25 31 (by omega), b24 31 (by omega), b23 31 (by omega), b22 31 (by omega), z0 31 (by decide)]
  have r32 : ∀ i, i < 4 → M38 32 i = M 32 (4 + i) := fun i hi => by
    rw [y38 32 (by omega), c32 i hi, b31 32 (by omega), b30 32 (by omega), b29 32 (by omega), b28 32 (by omega), b27 32 (by omega), b26 32 (by omega), b25 32 (by omega), b24 32 (by omega), b23 32 (by omega), b22 32 (by omega), z0 32 (by decide)]
  have r33 : ∀ i, i < 3 → M38 33 i = M 33 (3 + i) := fun i hi => by
    rw [b38 33 (by omega), b37 33 (by omega), b36 33 (by omega), b35 33 (by omega), b34 33 (by omega), c33 i hi, y32 33 (by omega), z0 33 (by decide)]
  have r34 : ∀ i, i < 3 → M38 34 i = M 34 (3 + i) := fun i hi => by
    rw [b38 34 (by omega), b37 34 (by omega), b36 34 (by omega), b35 34 (by omega), c34 i hi, b33 34 (by omega), y32 34 (by omega), z0 34 (by decide)]
  have r35 : ∀ i, i < 3 → M38 35 i = M 35 (3 + i) := fun i hi => by
    rw [b38 35 (by omega), b37 35 (by omega), b36 35 (by omega), c35 i hi, b34 35 (by omega), b33 35 (by omega), y32 35 (by omega), z0 35 (by decide)]
  have r36 : ∀ i, i < 64 → M38 36 i = M 36 (64 + i) := fun i hi => by
    rw [b38 36 (by omega), b37 36 (by omega), c36 i hi, b35 36 (by omega), b34 36 (by omega), b33 36 (by omega), y32 36 (by omega), z0 36 (by decide)]
  have r37 : ∀ i, i < 64 → M38 37 i = M 37 (64 + i) := fun i hi => by
    rw [b38 37 (by omega), c37 i hi, b36 37 (by omega), b35 37 (by omega), b34 37 (by omega), b33 37 (by omega), y32 37 (by omega), z0 37 (by decide)]
  have r38 : ∀ i, i < 64 → M38 38 i = M 38 (64 + i) := fun i hi => by
    rw [c38 i hi, b37 38 (by omega), b36 38 (by omega), b35 38 (by omega), b34 38 (by omega), b33 38 (by omega), y32 38 (by omega), z0 38 (by decide)]
  have m22 : Mf 22 ((2 : Int32).toNatClampNeg) = M 22 5 := by
    rw [ff 22 (by omega)]
    exact r22 2 (by omega)
  rw [nI_0] at a33
  rw [a22, tx_b1_q, a23, tx_b1_q, a24, tx_b1_q, a25, tx_b1_q, a26, tx_b1_q, a27, tx_b1_q, a28, tx_b1_q, a29, tx_b1_q, a30, tx_b1_q, a31, tx_b1_q, a32, tx_b1_q, a33]
  unfold f_X12_keepText_J129 f_X12_begin
  rw [if_pos (show (3 : Int32) ≤ nI 3 by decide), a34, tx_b1_q, a35, tx_b1_q, a36, tx_b1_q, a37, tx_b1_q, a38, tx_b1_q, f1', tx_b1_q, tx_let_q, m22, pT_f, tx_b1_q, tx_let_q, tx_let_q, tx_let_q, tx_let_q, tx_b2_q]
  obtain ⟨Mz, qz⟩ : ∃ Mz, Mz = up2 (up2 (up2 (up2 (pT Mf) 0 71 0) 0 72 (-1)) 0 75 0) 0 77 0 := ⟨_, rfl⟩
  rw [← qz]
  have gz : ∀ r, r ≠ 0 → Mz r = Mf r := fun r h => by rw [qz, up2_n _ _ _ h, up2_n _ _ _ h, up2_n _ _ _ h, up2_n _ _ _ h, pT_n _ h]
  have g0 : ∀ i, i < 61 → Mz 0 i = Mf 0 i := fun i h => by
    rw [qz, up2_i _ _ _ (by omega), up2_i _ _ _ (by omega), up2_i _ _ _ (by omega), up2_i _ _ _ (by omega)]
    unfold pT
    rw [up2_i _ _ _ (by omega), up2_i _ _ _ (by omega), up2_i _ _ _ (by omega), up2_i _ _ _ (by omega), up2_i _ _ _ (by omega), up2_i _ _ _ (by omega), up2_i _ _ _ (by omega), up2_i _ _ _ (by omega), up2_i _ _ _ (by omega)]
  have h0 : ∀ i, i < 61 → Mz 0 i = M0 0 i := fun i h => by rw [g0 i h, ff 0 (by omega), yy 0 (by omega)]
  have hh : ∀ r, r ≠ 0 → r < 50 ∨ 59 < r → Mz r = M38 r := fun r a b => by rw [gz r a, ff r b]
  refine ⟨Mz, rfl, ⟨?_, ?_, ?_, ?_⟩, fun i hi => ?_, ?_, fun r a b => ?_, fun i hi => ⟨?_, ?_, ?_, ?_⟩, fun i hi => ⟨?_, ?_, ?_⟩, fun i hi => ⟨?_, ?_, ?_, ?_⟩, fun i hi => ⟨?_, ?_, ?_⟩, fun i hi => ⟨?_, ?_, ?_⟩, fun u hu => ?_, fun u hu => ?_, ?_, ?_⟩
  · rw [h0 12 (by omega), z1.1]
  · rw [h0 13 (by omega), z1.2.1]
  · rw [h0 14 (by omega), z1.2.2.1]
  · rw [h0 15 (by omega), z1.2.2.2]
  · rw [h0 i (by omega), z2 i hi]
  · rw [qz]; exact ⟨rfl, rfl, rfl, rfl⟩
  · rw [hh r a (by omega), yy r (by omega), z0 r a]
  · rw [hh 22 (by decide) (by omega), r22 i hi]
  · rw [hh 33 (by decide) (by omega), r33 i hi]
  · rw [hh 34 (by decide) (by omega), r34 i hi]
  · rw [hh 35 (by decide) (by omega), r35 i hi]
  · rw [hh 23 (by decide) (by omega), r23 i hi]
  · rw [hh 24 (by decide) (by omega), r24 i hi]
  · rw [hh 25 (by decide) (by omega), r25 i hi]
  · rw [hh 26 (by decide) (by omega), r26 i hi]
  · rw [hh 27 (by decide) (by omega), r27 i hi]
  · rw [hh 28 (by decide) (by omega), r28 i hi]
  · rw [hh 29 (by decide) (by omega), r29 i hi]
  · rw [hh 30 (by decide) (by omega), r30 i hi]
  · rw [hh 31 (by decide) (by omega), r31 i hi]
  · rw [hh 32 (by decide) (by omega), r32 i hi]
  · rw [hh 36 (by decide) (by omega), r36 i hi]
  · rw [hh 37 (by decide) (by omega), r37 i hi]
  · rw [hh 38 (by decide) (by omega), r38 i hi]
  · have g := f3 u hu
    rw [z120] at g
    rw [gz 50 (by decide), gz 51 (by decide), gz 52 (by decide)]
    exact g
  · have g := f4 u hu
    rw [z60, r24 u hu] at g
    rw [gz 53 (by decide), gz 54 (by decide), gz 55 (by decide), gz 56 (by decide), gz 57 (by decide)]
    exact g
  · rw [gz 58 (by decide), f5]
    exact r22 0 (by omega)
  · rw [gz 59 (by decide), f6]
theorem told_q (fu : Nat) (hf : 1000 ≤ fu) {B L M W3 Tw : S32} {v : S64} {np nt nr : Nat} (hB : bkU B M np nt nr) (hbi : bkIn B np nt nr) (hl : lwU L M) (hW3 : W3 0 15 = 0 ∨ W3 0 15 = 1) (hTw : Tw 0 15 = 0 ∨ Tw 0 15 = 1) : ∃ W M' v', f_X10_begin fu B Tw = some W ∧ f_X12_keepText fu M v = some (M', v') ∧ bkOK B (pj M') np nt nr ∧ lwOK L (pj M') ∧ NOWs W B (pj M') W3 np nt nr (v' 0 59) ∧ (M' 0 71 = 0 ∧ M' 0 72 = -1 ∧ M' 0 75 = 0 ∧ M' 0 77 = 0) ∧ (∀ i, i = 1 ∨ i = 4 ∨ i = 5 → M' 0 i = M 0 i) ∧ (∀ r, r ≠ 0 → r < 22 ∨ 59 < r → M' r = M r) := by
  obtain ⟨⟨hnp, hnt, hnr⟩, ⟨b1, m1⟩, ⟨b5, m5⟩, ⟨b10, m10⟩, hbp, hbt, hbr, ho1, ho2, ho3⟩ := hB
  obtain ⟨n, hn, l5, m19, hk, hj⟩ := hl
  obtain ⟨W, w1, w2, w3, w4, w5, w6, w7, w8⟩ := bgn fu hf Tw b10 hnr
  obtain ⟨M', k1, ⟨k2, k3, k4, k5⟩, k6, k7, k8, k9, k10, k11, k12, k13, k14, k15, k16, k17⟩ := keep_q fu hf M v hnr m10 (fun j hj' => by
    rcases hj j hj' with ⟨-, h⟩ | ⟨h, -⟩
    · exact Or.inl h
    · exact Or.inr h)
  refine ⟨W, M', _, w1, k1, ⟨⟨hnp, hnt, hnr⟩, ⟨b1, ?_⟩, ⟨b5, ?_⟩, ⟨b10, ?_⟩, fun p hp => ?_, fun t ht => ?_, fun r hr => ?_, ?_⟩, ⟨n, hn, l5, ?_, fun i hi => ?_, fun j hj' => ?_⟩, ⟨⟨fun p hp => ?_, fun t ht => ?_, ?_⟩, ⟨fun p hp => ?_, fun t ht => ?_, fun t ht => ?_, ?_, 0, by omega, ?_, fun p hp => ?_⟩, ⟨fun p hp => ?_, fun r hr => ?_⟩, fun t ht => ?_, ?_, ?_, hW3⟩, k7, k6, k8⟩
  · rw [pj_in (by decide), k2]; exact m1
  · rw [pj_in (by decide), k3]; exact m5
  · rw [pj_in (by decide), k4]; exact m10
  · rw [pj_in (rl6 (by simp) (by omega)), pj_in (rl6 (by simp) (by omega)), pj_in (rl6 (by simp) (by omega)), (k10 p (by omega)).1, (k10 p (by omega)).2.1, (k10 p (by omega)).2.2]
    exact hbp p hp
  · rw [pj_in (rl12 (by simp) (by omega)), pj_in (rl12 (by simp) (by omega)), pj_in (rl12 (by simp) (by omega)), pj_in (rl12 (by simp) (by omega)), (k11 t (by omega)).1, (k11 t (by omega)).2.1, (k11 t (by omega)).2.2.1, (k11 t (by omega)).2.2.2]
    exact hbt t ht
  · rw [pj_in (rl4 (by simp) (by omega)), pj_in (rl4 (by simp) (by omega)), pj_in (rl4 (by simp) (by omega)), (k12 r (by omega)).1, (k12 r (by omega)).2.1, (k12 r (by omega)).2.2]
    exact hbr r hr
  · rw [pj_in (by decide), pj_in (by decide), pj_in (by decide), (k9 0 (by omega)).1, (k9 1 (by omega)).1, (k9 2 (by omega)).1]
    exact ⟨ho1, ho2, ho3⟩
  · rw [pj_in (by decide), k5]; exact m19
  · rw [pj_in (rl64 (by simp) (by omega)), pj_in (rl64 (by simp) (by omega)), (k13 i (by omega)).1, (k13 i (by omega)).2.1]
    exact hk i hi
  · rw [pj_in (rl3 (by simp) hj'), pj_in (rl3 (by simp) hj'), pj_in (rl3 (by simp) hj'), (k9 j hj').2.1, (k9 j hj').2.2.1, (k9 j hj').2.2.2]
    rcases hj j hj' with h | ⟨h, a, b, h1, h2, h3, h4, h5, h6, h7⟩
    · exact Or.inl h
    · refine Or.inr ⟨h, a, b, h1, h2, h3, h4, h5, h6, knW.e (fun r i r1 r2 hi => ?_) _ _ _ (by omega) h7⟩
      rw [pj_in (rl64 (by omega) hi)]
      have : r = 36 ∨ r = 37 ∨ r = 38 := by omega
      rcases this with rfl | rfl | rfl
      · exact (k13 i hi).1
      · exact (k13 i hi).2.1
      · exact (k13 i hi).2.2
  · obtain ⟨a1, a2, a3, a4, a5, a6⟩ := w6 p (by omega)
    obtain ⟨c1, c2, c3, c4, c5⟩ := k15 p (by omega)
    rw [z60, pj_in (rl6 (by simp) (by omega)), pj_in (rl6 (by simp) (by omega)), pj_in (rl6 (by simp) (by omega)), pj_in (rl6 (by simp) (by omega)), pj_in (rl6 (by simp) (by omega)), a1, a3, a4, a5, a6, c1, c2, c3, c4, c5, (hbp p hp).2.1]
    exact ⟨rfl, rfl, rfl, rfl, rfl⟩
  · obtain ⟨a1, a2, a3⟩ := w7 t (by omega)
    obtain ⟨c1, c2, c3⟩ := k14 t (by omega)
    rw [z120, pj_in (rl12 (by simp) (by omega)), pj_in (rl12 (by simp) (by omega)), a2, a3, c2, c3]
    exact ⟨rfl, rfl⟩
  · rw [pj_in (by decide), pj_in (by decide), w2, w3, k16, k17, ho1]
    exact ⟨rfl, rfl⟩
  · obtain ⟨a1, a2, a3, a4, a5, a6⟩ := w6 p (by omega)
    obtain ⟨⟨a, ha, ea⟩, -⟩ := hbi.1 p hp
    rw [a1, a5, a6]
    refine ⟨⟨a, ha, ea⟩, ⟨0, by omega, rfl⟩, ?_⟩
    unfold rv
    by_cases h0 : nr = 0
    · rw [if_pos h0]; exact Or.inl ⟨h0, rfl⟩
    · rw [if_neg h0]; exact Or.inr ⟨p % nr, Nat.mod_lt _ (by omega), rfl⟩
  · obtain ⟨a1, a2, a3⟩ := w7 t (by omega)
    rw [a1, a2]
    exact Or.inr ⟨Or.inl rfl, rfl⟩
  · exact Or.inl (w7 t (by omega)).2.2
  · rw [w3]; exact hbi.2.2.2.1
  · rw [w2]; rfl
  · obtain ⟨a1, a2, a3, a4, a5, a6⟩ := w6 p (by omega)
    rw [a3, a4]
    exact ⟨⟨0, by omega, rfl⟩, ⟨0, by omega, rfl⟩⟩
  · exact (w6 p (by omega)).2.1
  · exact w8 r (by omega)
  · rw [(w7 t (by omega)).1, pj_in (rl12 (by simp) (by omega)), (k14 t (by omega)).1]
  · obtain ⟨a, ha, ea⟩ := hbi.2.2.2.2.2
    refine ⟨a, by omega, by rw [w4]; exact ea, ?_⟩
    rw [up4_e, ← ho3, ea]
    exact nI_l (by omega)
  · rw [w5]; exact hTw
