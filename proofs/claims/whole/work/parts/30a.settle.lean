/-! what is known of what was found -/
def ent (F M : S32) (nt i : Nat) : Prop := (∃ g, g < i ∧ F 4 i = nI g ∧ M 74 (3 * i) = -1 ∧ M 74 (3 * i + 1) = nI g) ∨
    (F 4 i = -1 ∧ (∃ w, 1 ≤ w ∧ w ≤ 40 ∧ F 1 i = nI w ∧ M 74 (3 * i) = nI w) ∧ (∃ t, t < nt ∧ F 2 i = nI t ∧ M 74 (3 * i + 1) = nI t) ∧ (F 3 i = 0 ∨ F 3 i = 1) ∧ M 74 (3 * i + 2) = F 3 i)
/-- the finds of both, and how many of them are known -/
def FE (F M : S32) (nt n c : Nat) : Prop := n ≤ 24 ∧ c ≤ n ∧ F 0 5 = nI n ∧ M 0 71 = nI n ∧ F 0 6 = M 0 72 ∧ ((F 0 6 = -1 ∧ c = n) ∨ F 0 6 = nI c) ∧ ∀ i, i < n → ent F M nt i
theorem FE.c {F M F' M' : S32} {nt n c : Nat} (h : FE F M nt n c) (hF : ∀ r, r ≠ 5 → F' r = F r) (hM : M' 74 = M 74) (h1 : M' 0 71 = M 0 71) (h2 : M' 0 72 = M 0 72) : FE F' M' nt n c := by
  unfold FE ent
  rw [hF 0 (by decide), hF 1 (by decide), hF 2 (by decide), hF 3 (by decide), hF 4 (by decide), hM, h1, h2]
  exact h
theorem FE.kF {F M : S32} {nt n c : Nat} (h : FE F M nt n c) (fu : Nat) : f_X2_knownBy fu F = some (nI c) := by
  obtain ⟨h1, h2, h3, -, -, h5, -⟩ := h
  unfold f_X2_knownBy
  rcases h5 with ⟨e, rfl⟩ | e
  · rw [e, if_pos rfl, h3]
  · rw [e, if_neg (m1_ne (by omega)), h3, if_neg (nI_nlt h2 (by omega))]
theorem FE.kM {F M : S32} {nt n c : Nat} (h : FE F M nt n c) (fu : Nat) (v : S64) : f_X12_knownBy fu M v = some (nI c) := by
  obtain ⟨h1, h2, h3, h4, h6, h5, -⟩ := h
  unfold f_X12_knownBy
  rw [← h6, h4]
  rcases h5 with ⟨e, rfl⟩ | e
  · rw [e, if_neg (by decide)]
  · rw [e, if_pos (nI_pos' (by omega))]
theorem FE.of {F M : S32} {nt : Nat} (h : fdOK F M nt) : ∃ n c, FE F M nt n c := by
  obtain ⟨n, h1, h2, h3, h4, h5, h6⟩ := h
  rcases h5 with e | ⟨a, ha, e⟩
  · exact ⟨n, n, h1, Nat.le_refl _, h2, h3, h4, Or.inl ⟨e, rfl⟩, h6⟩
  · exact ⟨n, a, h1, ha, h2, h3, h4, Or.inr e, h6⟩
def ckR (F M : S32) (c : Nat) : Prop := ∀ k, k < c → (F 5 k = 0 ∧ M 75 k = 1) ∨ (F 5 k = 1 ∧ M 75 k = 0)
theorem m1_sub (i : Nat) : nI i + (-1) = nI i - 1 := by
  generalize nI i = x
  grind
theorem se_clr (fu : Nat) {F M : S32} {nt n0 c : Nat} (hE : FE F M nt n0 c) : ∀ m i n F', i + m = 24 → m < n → (∀ r, r ≠ 5 → F' r = F r) → (∀ j, j < i → F' 5 j = 0) → ∃ F'', f_X2_settle_L2 fu n F' (nI i) = f_X2_settle_L33 fu fu F'' (nI c - 1) ∧ (∀ r, r ≠ 5 → F'' r = F r) ∧ (∀ j, j < 24 → F'' 5 j = 0) := by
  intro m
  induction m with
  | zero =>
    intro i n F' hi hn h1 h2
    obtain ⟨n, rfl⟩ := pos_ex hn
    have : i = 24 := by omega
    subst this
    refine ⟨F', ?_, h1, h2⟩
    show f_X2_settle_J2 _ _ _ _ = _
    unfold f_X2_settle_J2
    have hc : c ≤ 24 := Nat.le_trans hE.2.1 hE.1
    rw [if_pos (show (24 : Int32) ≤ nI 24 by decide), (hE.c h1 rfl rfl rfl).kF fu, tx_b1_q, tx_let_q, if_neg (show ¬ (24 : Int32) < nI c from nI_nlt (a := 24) hc (by omega))]
  | succ m ih =>
    intro i n F' hi hn h1 h2
    obtain ⟨n, rfl⟩ := pos_ex hn
    obtain ⟨F'', e1, e2⟩ := ih (i + 1) n (up2 F' 5 i (0 &&& 1)) (by omega) (by omega) (fun r hr => by rw [up2_n _ _ _ hr, h1 r hr]) (fun j hj => by
      by_cases e : j = i
      · subst e; rw [up2_e]; rfl
      · rw [up2_i _ _ _ e, h2 j (by omega)])
    refine ⟨F'', ?_, e2⟩
    rw [← e1]
    show f_X2_settle_J2 _ _ _ _ = _
    unfold f_X2_settle_J2
    rw [if_neg (show ¬ (24 : Int32) ≤ nI i from nI_ge (b := 24) (by omega) (by omega)), tx_ck_q (j := i) (by omega) (by omega), tx_let_q, tx_let_q, nI_clamp (n := i) (by omega), nI_1]
theorem sk_set (fu : Nat) (v : S64) (w1 : Int32) {F M : S32} {nt n0 c : Nat} (hE : FE F M nt n0 c) : ∀ m k n M', k + m = c → m < n → (∀ r, r ≠ 75 → M' r = M r) → (∀ j, j < k → M' 75 j = 1) → ∃ M'', f_X12_skills_L17 fu n M' v w1 (nI k) = f_X12_skills_L45 fu fu M'' v w1 (nI c - 1) ∧ (∀ r, r ≠ 75 → M'' r = M r) ∧ (∀ j, j < c → M'' 75 j = 1) := by
  have hc : c ≤ 24 := Nat.le_trans hE.2.1 hE.1
  intro m
  induction m with
  | zero =>
    intro k n M' hk hn h1 h2
    obtain ⟨n, rfl⟩ := pos_ex hn
    have : k = c := by omega
    subst this
    refine ⟨M', ?_, h1, h2⟩
    show f_X12_skills_J17 _ _ _ _ _ _ = _
    unfold f_X12_skills_J17
    rw [(hE.c (F' := F) (fun _ _ => rfl) (h1 74 (by decide)) (by rw [h1 0 (by decide)]) (by rw [h1 0 (by decide)])).kM fu v, tx_b1_q, if_pos (nI_le (Nat.le_refl _) (by omega)), tx_b1_q, tx_let_q]
  | succ m ih =>
    intro k n M' hk hn h1 h2
    obtain ⟨n, rfl⟩ := pos_ex hn
    obtain ⟨M'', e1, e2⟩ := ih (k + 1) n (up2 M' 75 k (1 &&& 1)) (by omega) (by omega) (fun r hr => by rw [up2_n _ _ _ hr, h1 r hr]) (fun j hj => by
      by_cases e : j = k
      · subst e; rw [up2_e]; rfl
      · rw [up2_i _ _ _ e, h2 j (by omega)])
    refine ⟨M'', ?_, e2⟩
    rw [← e1]
    show f_X12_skills_J17 _ _ _ _ _ _ = _
    unfold f_X12_skills_J17
    rw [(hE.c (F' := F) (fun _ _ => rfl) (h1 74 (by decide)) (by rw [h1 0 (by decide)]) (by rw [h1 0 (by decide)])).kM fu v, tx_b1_q, if_neg (nI_ge (by omega) (by omega)), tx_ck_q (j := k) (by omega) (by omega), tx_let_q, tx_let_q, nI_clamp (n := k) (by omega), nI_1]
theorem se_dn (fu : Nat) (v : S64) (w1 : Int32) {F M : S32} {nt n0 c : Nat} (hE : FE F M nt n0 c) : ∀ i n n' F' M', i ≤ c → i < n → i < n' → (∀ r, r ≠ 5 → F' r = F r) → (∀ r, r ≠ 75 → M' r = M r) → ckR F' M' c → ∃ F'' M'', f_X2_settle_L33 fu n F' (nI i - 1) = some F'' ∧ f_X12_skills_L45 fu n' M' v w1 (nI i - 1) = f_X12_skills_L95 fu fu M'' v w1 0 0 ∧ (∀ r, r ≠ 5 → F'' r = F r) ∧ (∀ r, r ≠ 75 → M'' r = M r) ∧ ckR F'' M'' c := by
  have hc : c ≤ 24 := Nat.le_trans hE.2.1 hE.1
  intro i
  induction i with
  | zero =>
    intro n n' F' M' hi hn hn' h1 h2 h3
    obtain ⟨n, rfl⟩ := pos_ex hn
    obtain ⟨n', rfl⟩ := pos_ex hn'
    refine ⟨F', M', ?_, ?_, h1, h2, h3⟩
    · show f_X2_settle_J33 _ _ _ _ = _
      unfold f_X2_settle_J33
      rw [if_pos (by decide)]
    · show f_X12_skills_J45 _ _ _ _ _ _ = _
      unfold f_X12_skills_J45
      rw [if_pos (by decide)]
  | succ i ih =>
    intro n n' F' M' hi hn hn' h1 h2 h3
    obtain ⟨n, rfl⟩ := pos_ex hn
    obtain ⟨n', rfl⟩ := pos_ex hn'
    have ih' := fun F' M' => ih n n' F' M' (by omega) (by omega) (by omega)
    have e3 : (3 : Int32) * nI i = nI (3 * i) := pk_mul 3 i
    rw [nI_pred]
    show ∃ F'' M'', f_X2_settle_J33 fu (f_X2_settle_L33 fu n) F' (nI i) = some F'' ∧ f_X12_skills_J45 fu (f_X12_skills_L45 fu n') M' v w1 (nI i) = f_X12_skills_L95 fu fu M'' v w1 0 0 ∧ (∀ r, r ≠ 5 → F'' r = F r) ∧ (∀ r, r ≠ 75 → M'' r = M r) ∧ ckR F'' M'' c
    unfold f_X2_settle_J33 f_X12_skills_J45 f_X2_settle_J70 f_X12_skills_J85
    have ck := fun k : Option S32 => tx_ck_q (j := i) (n := 24) (by omega) (by omega) k
    have dk := fun k : Option (Int32 × S32 × S64) => tx_ck_q (j := i) (n := 24) (by omega) (by omega) k
    have d3 := fun k : Option (Int32 × S32 × S64) => tx_ck_q (j := 3 * i) (n := 72) (by omega) (by omega) k
    have d4 := fun k : Option (Int32 × S32 × S64) => tx_ck_q (j := 3 * i + 1) (n := 72) (by omega) (by omega) k
    rw [if_neg (nI_pos (n := i) (by omega)), if_neg (nI_pos (n := i) (by omega)), ck, tx_let_q, ck, dk, e3, nI_1, d3, d4, nI_clamp (n := i) (by omega), nI_clamp (n := 3 * i) (by omega), nI_clamp (n := 3 * i + 1) (by omega), h1 4 (by decide), h2 74 (by decide), m1_sub]
    have hc3 := h3 i (by omega)
    rcases hE.2.2.2.2.2.2 i (by have := hE.2.1; omega) with ⟨g, hg, f4, m1, m2⟩ | ⟨f4, ⟨w, hw1, hw2, f1, m1⟩, -⟩
    · rw [f4, m1, m2, if_neg (nI_pos (n := g) (by omega)), if_neg (show ¬ (24 : Int32) ≤ nI g from nI_ge (b := 24) (by omega) (by omega)), tx_ck_q (j := g) (n := 24) (by omega) (by omega), tx_ck_q (j := g) (n := 24) (by omega) (by omega), nI_clamp (n := g) (by omega), if_neg (show ¬ (0 : Int32) ≤ -1 by decide)]
      rcases hc3 with ⟨a, b⟩ | ⟨a, b⟩
      · rw [a, b, if_pos rfl, if_neg one_ne, tx_let_q, tx_let_q, tx_let_q, tx_let_q]
        refine ih' _ _ (fun r hr => by rw [up2_n _ _ _ hr, h1 r hr]) (fun r hr => by rw [up2_n _ _ _ hr, h2 r hr]) (fun k hk => ?_)
        by_cases e : k = g
        · subst e
          rw [up2_e, up2_e]
          exact Or.inr ⟨rfl, rfl⟩
        · rw [up2_i _ _ _ e, up2_i _ _ _ e]
          exact h3 k hk
      · rw [a, b, if_neg one_ne, if_pos rfl, tx_let_q, tx_let_q]
        exact ih' _ _ h1 h2 h3
    · rw [f4, m1, if_pos (show (-1 : Int32) < 0 by decide), if_pos (nI_pos' (n := w) (by omega)), tx_let_q, tx_let_q]
      rcases hc3 with ⟨a, b⟩ | ⟨a, b⟩
      · rw [b, if_neg one_ne]
        exact ih' _ _ h1 h2 h3
      · rw [b, if_pos rfl]
        exact ih' _ _ h1 h2 h3
theorem settle_q (fu : Nat) (hf : 1000 ≤ fu) (v : S64) (w1 : Int32) {F M : S32} {nt n0 c : Nat} (hE : FE F M nt n0 c) : ∃ F' M', f_X2_settle fu F = some F' ∧ f_X12_skills_L17 fu fu M v w1 0 = f_X12_skills_L95 fu fu M' v w1 0 0 ∧ (∀ r, r ≠ 5 → F' r = F r) ∧ (∀ r, r ≠ 75 → M' r = M r) ∧ ckR F' M' c := by
  have hc : c ≤ 24 := Nat.le_trans hE.2.1 hE.1
  obtain ⟨F1, a1, a2, a3⟩ := se_clr fu hE 24 0 fu F (by omega) (by omega) (fun _ _ => rfl) (fun j hj => absurd hj (by omega))
  obtain ⟨M1, b1, b2, b3⟩ := sk_set fu v w1 hE c 0 fu M (by omega) (by omega) (fun _ _ => rfl) (fun j hj => absurd hj (by omega))
  obtain ⟨F2, M2, c1, c2, c3⟩ := se_dn fu v w1 hE c fu fu F1 M1 (Nat.le_refl _) (by omega) (by omega) a2 b2 (fun k hk => Or.inl ⟨a3 k (by omega), b3 k hk⟩)
  exact ⟨F2, M2, a1.trans c1, b1.trans c2, c3⟩
theorem kK (fu : Nat) {F M : S32} {nt n0 c : Nat} (hE : FE F M nt n0 c) {i : Nat} (hi : i < 24) : f_X2_isKnown fu F (nI i) = some (if i < c ∧ F 4 i = -1 ∧ F 5 i = 0 then 1 else 0) := by
  have hc : c ≤ 24 := Nat.le_trans hE.2.1 hE.1
  unfold f_X2_isKnown
  rw [if_neg (nI_pos (n := i) (by omega)), if_neg (show ¬ (24 : Int32) ≤ nI i from nI_ge (b := 24) (by omega) (by omega)), hE.kF fu, tx_b1_q]
  by_cases h : i < c
  · rw [if_neg (nI_ge h (by omega)), tx_ck_q hi (by omega), tx_ck_q hi (by omega), nI_clamp (by omega)]
    by_cases h4 : F 4 i = -1
    · rw [if_pos h4]
      by_cases h5 : F 5 i = 0
      · rw [if_pos h5, if_pos ⟨h, h4, h5⟩]
      · rw [if_neg h5, if_neg (fun z => h5 z.2.2)]
    · rw [if_neg h4, if_neg (fun z => h4 z.2.1)]
  · rw [if_pos (nI_le (by omega) (by omega)), if_neg (fun z => h z.1)]
theorem lk_q (fu : Nat) {F M : S32} {nt n0 c : Nat} (hE : FE F M nt n0 c) : ∀ m i n a, i + m = 24 → m < n → a ≤ 40 → ∃ lw, a ≤ lw ∧ lw ≤ 40 ∧ f_X2_lastKnownWeek_L4 fu F n (nI a) (nI i) = some (nI lw) ∧ ∀ j, i ≤ j → j < c → F 4 j = -1 → F 5 j = 0 → ∃ w, w ≤ lw ∧ F 1 j = nI w := by
  have hc : c ≤ 24 := Nat.le_trans hE.2.1 hE.1
  intro m
  induction m with
  | zero =>
    intro i n a hi hn ha
    obtain ⟨n, rfl⟩ := pos_ex hn
    refine ⟨a, Nat.le_refl _, ha, ?_, fun j h1 h2 => absurd h2 (by omega)⟩
    show f_X2_lastKnownWeek_J4 _ _ _ _ _ = _
    unfold f_X2_lastKnownWeek_J4
    rw [if_pos (show (24 : Int32) ≤ nI i from nI_le (a := 24) (by omega) (by omega))]
  | succ m ih =>
    intro i n a hi hn ha
    obtain ⟨n, rfl⟩ := pos_ex hn
    show ∃ lw, a ≤ lw ∧ lw ≤ 40 ∧ f_X2_lastKnownWeek_J4 fu F (f_X2_lastKnownWeek_L4 fu F n) (nI a) (nI i) = some (nI lw) ∧ ∀ j, i ≤ j → j < c → F 4 j = -1 → F 5 j = 0 → ∃ w, w ≤ lw ∧ F 1 j = nI w
    unfold f_X2_lastKnownWeek_J4 f_X2_lastKnownWeek_J32
    rw [if_neg (show ¬ (24 : Int32) ≤ nI i from nI_ge (b := 24) (by omega) (by omega)), kK fu hE (show i < 24 by omega), tx_b1_q, tx_ck_q (j := i) (by omega) (by omega), nI_clamp (n := i) (by omega), tx_let_q, tx_let_q, nI_1]
    by_cases hk : i < c ∧ F 4 i = -1 ∧ F 5 i = 0
    · rw [if_pos hk, if_neg one_ne]
      rcases hE.2.2.2.2.2.2 i (by have := hE.2.1; omega) with ⟨g, hg, f4, -⟩ | ⟨-, ⟨w, hw1, hw2, f1, -⟩, -⟩
      · rw [hk.2.1] at f4
        exact absurd f4.symm (m1_ne (by omega))
      · rw [f1]
        by_cases hlt : a < w
        · rw [if_pos (nI_lt hlt (by omega))]
          obtain ⟨lw, g1, g2, g3, g4⟩ := ih (i + 1) n w (by omega) (by omega) hw2
          refine ⟨lw, by omega, g2, g3, fun j h1 h2 h3 h4 => ?_⟩
          by_cases e : j = i
          · subst e; exact ⟨w, g1, f1⟩
          · exact g4 j (by omega) h2 h3 h4
        · rw [if_neg (nI_nlt (by omega) (by omega))]
          obtain ⟨lw, g1, g2, g3, g4⟩ := ih (i + 1) n a (by omega) (by omega) ha
          refine ⟨lw, g1, g2, g3, fun j h1 h2 h3 h4 => ?_⟩
          by_cases e : j = i
          · subst e; exact ⟨w, by omega, f1⟩
          · exact g4 j (by omega) h2 h3 h4
    · rw [if_neg hk, if_pos rfl]
      obtain ⟨lw, g1, g2, g3, g4⟩ := ih (i + 1) n a (by omega) (by omega) ha
      refine ⟨lw, g1, g2, g3, fun j h1 h2 h3 h4 => ?_⟩
      by_cases e : j = i
      · subst e; exact absurd ⟨h2, h3, h4⟩ hk
      · exact g4 j (by omega) h2 h3 h4
theorem ag_end (fu : Nat) {F M W B : S32} {nt n0 c : Nat} (hE : FE F M nt n0 c) (d : Int32) : ∀ m i n, c ≤ i → i + m = n0 → m < n → f_X2_agrees_L2 fu F W B n d (nI i) = some 1 := by
  have h24 := hE.1
  intro m
  induction m with
  | zero =>
    intro i n hc hi hn
    obtain ⟨n, rfl⟩ := pos_ex hn
    show f_X2_agrees_J2 _ _ _ _ _ _ _ = _
    unfold f_X2_agrees_J2
    rw [hE.2.2.1, if_pos (nI_le (by omega) (by omega))]
  | succ m ih =>
    intro i n hc hi hn
    obtain ⟨n, rfl⟩ := pos_ex hn
    show f_X2_agrees_J2 _ _ _ _ _ _ _ = _
    unfold f_X2_agrees_J2 f_X2_agrees_J81
    rw [hE.2.2.1, if_neg (nI_ge (by omega) (by omega)), if_neg (show ¬ (24 : Int32) ≤ nI i from nI_ge (b := 24) (by omega) (by omega)), kK fu hE (show i < 24 by omega), tx_b1_q, if_neg (show ¬ (i < c ∧ F 4 i = -1 ∧ F 5 i = 0) from fun z => by omega), if_pos rfl, tx_let_q, nI_1]
    exact ih (i + 1) n (by omega) (by omega) (by omega)
theorem ag_so (fu : Nat) (hf : 1000 ≤ fu) {F M W B : S32} {v : S64} {nt n0 c lw d : Nat} (hE : FE F M nt n0 c) (hck : ckR F M c) (b5 : B 0 5 = nI nt) (hnt : nt ≤ 12) (h13 : ∀ t, t < nt → W 13 t = M 52 (12 + t)) (hb : ∀ t, t < nt → W 13 t = 0 ∨ W 13 t = 1) (hd : d ≤ 40) (hlw : ∀ j, j < c → F 4 j = -1 → F 5 j = 0 → ∃ w, w ≤ lw ∧ F 1 j = nI w) (hl4 : lw ≤ 40) : ∀ m i n n', i + m = c → m + n0 < n → m < n' → ∃ r, f_X2_agrees_L2 fu F W B n (nI d) (nI i) = some r ∧ f_X12_isSo_L2 fu M v n' (nI d) (nI i) = some r ∧ (r = 0 ∨ r = 1) ∧ (lw < d → r = 1) := by
  have h24 := hE.1
  have hcn := hE.2.1
  intro m
  induction m with
  | zero =>
    intro i n n' hi hn hn'
    obtain ⟨n', rfl⟩ := pos_ex hn'
    refine ⟨1, ag_end fu hE (nI d) (n0 - i) i n (by omega) (by omega) (by omega), ?_, Or.inr rfl, fun _ => rfl⟩
    show f_X12_isSo_J2 _ _ _ _ _ _ = _
    unfold f_X12_isSo_J2
    rw [hE.kM fu v, tx_b1_q, if_pos (nI_le (by omega) (by omega))]
  | succ m ih =>
    intro i n n' hi hn hn'
    obtain ⟨n, rfl⟩ := pos_ex (show 0 < n by omega)
    obtain ⟨n', rfl⟩ := pos_ex hn'
    obtain ⟨r, g1, g2, g3, g4⟩ := ih (i + 1) n n' (by omega) (by omega) (by omega)
    have e3 : (3 : Int32) * nI i = nI (3 * i) := pk_mul 3 i
    have e2 : nI (3 * i) + (2 : Int32) = nI (3 * i + 2) := nI_add (3 * i) 2
    show ∃ r, f_X2_agrees_J2 fu F W B (f_X2_agrees_L2 fu F W B n) (nI d) (nI i) = some r ∧ f_X12_isSo_J2 fu M v (f_X12_isSo_L2 fu M v n') (nI d) (nI i) = some r ∧ (r = 0 ∨ r = 1) ∧ (lw < d → r = 1)
    unfold f_X2_agrees_J2 f_X12_isSo_J2 f_X2_agrees_J76 f_X2_agrees_J81 f_X12_isSo_J71 f_X12_isSo_J76
    have ck := fun k : Option Int32 => tx_ck_q (j := i) (n := 24) (by omega) (by omega) k
    have d3 := fun k : Option Int32 => tx_ck_q (j := 3 * i) (n := 72) (by omega) (by omega) k
    have d4 := fun k : Option Int32 => tx_ck_q (j := 3 * i + 1) (n := 72) (by omega) (by omega) k
    have d5 := fun k : Option Int32 => tx_ck_q (j := 3 * i + 2) (n := 72) (by omega) (by omega) k
    rw [hE.2.2.1, if_neg (nI_ge (show i < n0 by omega) (by omega)), if_neg (show ¬ (24 : Int32) ≤ nI i from nI_ge (b := 24) (by omega) (by omega)), kK fu hE (show i < 24 by omega), tx_b1_q, hE.kM fu v, tx_b1_q, if_neg (nI_ge (show i < c by omega) (by omega)), e3, nI_1 (3 * i), e2]
    simp only [ck, d3, d4, d5, tx_let_q]
    rw [nI_clamp (n := i) (by omega), nI_clamp (n := 3 * i) (by omega), nI_clamp (n := 3 * i + 1) (by omega), nI_clamp (n := 3 * i + 2) (by omega), nI_1 i]
    rcases hE.2.2.2.2.2.2 i (by omega) with ⟨g, hg, f4, m1, m2⟩ | ⟨f4, ⟨w, hw1, hw2, f1, m1⟩, ⟨t, ht, f2, m2⟩, f3, m3⟩
    · have n4 : ¬ (i < c ∧ F 4 i = -1 ∧ F 5 i = 0) := by
        rintro ⟨-, z, -⟩
        rw [f4] at z
        exact m1_ne (by omega) z
      have nd : ¬ (-1 : Int32) = nI d := fun z => m1_ne (show d < 2 ^ 31 by omega) z.symm
      rw [if_neg n4, if_pos rfl, m1, if_neg nd]
      refine ⟨r, g1, ?_, g3, g4⟩
      by_cases z : M 75 i = 0
      · rw [if_pos z]; exact g2
      · rw [if_neg z]; exact g2
    · rcases hck i (by omega) with ⟨a, b⟩ | ⟨a, b⟩
      · have y4 : i < c ∧ F 4 i = -1 ∧ F 5 i = 0 := ⟨by omega, f4, a⟩
        rw [if_pos y4, if_neg one_ne, b, if_neg one_ne, f1, m1]
        by_cases hwd : nI w = nI d
        · have hwd' : w = d := (nI_eq (by omega) (by omega)).mp hwd
          subst hwd'
          have e12 : (12 : Int32) + nI t = nI (12 + t) := nI_add 12 t
          rw [if_pos rfl, if_pos rfl, f2, m2, c_isT fu b5 hnt ht, tx_b1_q, if_neg one_ne, tx_ck_q (j := t) (n := 12) (by omega) (by omega), e12, tx_ck_q (j := 12 + t) (n := 24) (by omega) (by omega), nI_clamp (n := t) (by omega), nI_clamp (n := 12 + t) (by omega), m3, ← h13 t ht]
          have hl : ¬ lw < w := by
            obtain ⟨w', hw', e'⟩ := hlw i (by omega) f4 a
            rw [f1] at e'
            have := (nI_eq (by omega) (by omega)).mp e'
            omega
          rcases hb t ht with x | x <;> rcases f3 with y | y <;> rw [x, y]
          · rw [if_neg (by decide), if_pos rfl, if_neg (by decide), if_pos rfl]
            exact ⟨r, g1, g2, g3, g4⟩
          · rw [if_neg (by decide), if_neg (by decide), if_pos rfl, if_neg (by decide)]
            exact ⟨0, rfl, rfl, Or.inl rfl, fun z => absurd z hl⟩
          · rw [if_pos rfl, if_neg (by decide), if_neg (by decide), if_neg (by decide)]
            exact ⟨0, rfl, rfl, Or.inl rfl, fun z => absurd z hl⟩
          · rw [if_pos rfl, if_pos rfl, if_pos rfl, if_pos rfl]
            exact ⟨r, g1, g2, g3, g4⟩
        · rw [if_neg hwd, if_neg hwd]
          exact ⟨r, g1, g2, g3, g4⟩
      · have n4 : ¬ (i < c ∧ F 4 i = -1 ∧ F 5 i = 0) := by
          rintro ⟨-, -, z⟩
          rw [a] at z
          exact one_ne z
        rw [if_neg n4, if_pos rfl, b, if_pos rfl]
        exact ⟨r, g1, g2, g3, g4⟩
