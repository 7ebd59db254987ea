/-! rows that are filled -/
theorem fill_l7 (fu : Nat) (x : Int32) (W0 : S32) : ∀ (m i : Nat) (W : S32) (n : Nat), i + m = 6 → m < n → (∀ q, q ≠ 7 → W q = W0 q) → (∀ p, p < i → W 7 p = x) → ∃ W', f_J7_fill_53178_oX10r7_L5 fu n W x (nI i) 6 = some W' ∧ (∀ q, q ≠ 7 → W' q = W0 q) ∧ ∀ p, p < 6 → W' 7 p = x := by
  intro m
  induction m with
  | zero =>
    intro i W n hi hn h1 h2
    obtain ⟨n, rfl⟩ := pos_ex hn
    have : i = 6 := by omega
    subst this
    refine ⟨W, ?_, h1, h2⟩
    show f_J7_fill_53178_oX10r7_J5 _ _ _ _ _ _ = _
    unfold f_J7_fill_53178_oX10r7_J5
    rw [if_pos (by decide)]
  | succ m ih =>
    intro i W n hi hn h1 h2
    obtain ⟨n, rfl⟩ := pos_ex hn
    obtain ⟨W', g1, g2⟩ := ih (i + 1) (up2 W 7 i x) n (by omega) (by omega) (fun q hq => (up2_n _ _ _ hq).trans (h1 q hq)) (fun p hp => by
      rw [up2_a]
      by_cases e : p = i
      · rw [if_pos ⟨rfl, e⟩]
      · rw [if_neg (fun z => e z.2)]; exact h2 p (by omega))
    refine ⟨W', ?_, g2⟩
    rw [← g1]
    show f_J7_fill_53178_oX10r7_J5 _ _ _ _ _ _ = _
    unfold f_J7_fill_53178_oX10r7_J5
    rw [if_neg (ge6 (t := i) (by omega)), tx_ck_q (by omega) (by omega), tx_let_q, tx_let_q, nI_clamp (by omega), nI_1]
theorem fill_7 (fu : Nat) (hf : 1000 ≤ fu) (x : Int32) (W : S32) : ∃ W', f_J7_fill_53178_oX10r7 fu W x = some W' ∧ (∀ q, q ≠ 7 → W' q = W q) ∧ ∀ p, p < 6 → W' 7 p = x := fill_l7 fu x W 6 0 W fu (by omega) (by omega) (fun _ _ => rfl) (fun p hp => absurd hp (by omega))
theorem fill_l8 (fu : Nat) (x : Int32) (W0 : S32) : ∀ (m i : Nat) (W : S32) (n : Nat), i + m = 6 → m < n → (∀ q, q ≠ 8 → W q = W0 q) → (∀ p, p < i → W 8 p = x) → ∃ W', f_J7_fill_53178_oX10r8_L5 fu n W x (nI i) 6 = some W' ∧ (∀ q, q ≠ 8 → W' q = W0 q) ∧ ∀ p, p < 6 → W' 8 p = x := by
  intro m
  induction m with
  | zero =>
    intro i W n hi hn h1 h2
    obtain ⟨n, rfl⟩ := pos_ex hn
    have : i = 6 := by omega
    subst this
    refine ⟨W, ?_, h1, h2⟩
    show f_J7_fill_53178_oX10r8_J5 _ _ _ _ _ _ = _
    unfold f_J7_fill_53178_oX10r8_J5
    rw [if_pos (by decide)]
  | succ m ih =>
    intro i W n hi hn h1 h2
    obtain ⟨n, rfl⟩ := pos_ex hn
    obtain ⟨W', g1, g2⟩ := ih (i + 1) (up2 W 8 i x) n (by omega) (by omega) (fun q hq => (up2_n _ _ _ hq).trans (h1 q hq)) (fun p hp => by
      rw [up2_a]
      by_cases e : p = i
      · rw [if_pos ⟨rfl, e⟩]
      · rw [if_neg (fun z => e z.2)]; exact h2 p (by omega))
    refine ⟨W', ?_, g2⟩
    rw [← g1]
    show f_J7_fill_53178_oX10r8_J5 _ _ _ _ _ _ = _
    unfold f_J7_fill_53178_oX10r8_J5
    rw [if_neg (ge6 (t := i) (by omega)), tx_ck_q (by omega) (by omega), tx_let_q, tx_let_q, nI_clamp (by omega), nI_1]
theorem fill_8 (fu : Nat) (hf : 1000 ≤ fu) (x : Int32) (W : S32) : ∃ W', f_J7_fill_53178_oX10r8 fu W x = some W' ∧ (∀ q, q ≠ 8 → W' q = W q) ∧ ∀ p, p < 6 → W' 8 p = x := fill_l8 fu x W 6 0 W fu (by omega) (by omega) (fun _ _ => rfl) (fun p hp => absurd hp (by omega))
theorem fill_l9 (fu : Nat) (x : Int32) (W0 : S32) : ∀ (m i : Nat) (W : S32) (n : Nat), i + m = 6 → m < n → (∀ q, q ≠ 9 → W q = W0 q) → (∀ p, p < i → W 9 p = x) → ∃ W', f_J7_fill_53178_oX10r9_L5 fu n W x (nI i) 6 = some W' ∧ (∀ q, q ≠ 9 → W' q = W0 q) ∧ ∀ p, p < 6 → W' 9 p = x := by
  intro m
  induction m with
  | zero =>
    intro i W n hi hn h1 h2
    obtain ⟨n, rfl⟩ := pos_ex hn
    have : i = 6 := by omega
    subst this
    refine ⟨W, ?_, h1, h2⟩
    show f_J7_fill_53178_oX10r9_J5 _ _ _ _ _ _ = _
    unfold f_J7_fill_53178_oX10r9_J5
    rw [if_pos (by decide)]
  | succ m ih =>
    intro i W n hi hn h1 h2
    obtain ⟨n, rfl⟩ := pos_ex hn
    obtain ⟨W', g1, g2⟩ := ih (i + 1) (up2 W 9 i x) n (by omega) (by omega) (fun q hq => (up2_n _ _ _ hq).trans (h1 q hq)) (fun p hp => by
      rw [up2_a]
      by_cases e : p = i
      · rw [if_pos ⟨rfl, e⟩]
      · rw [if_neg (fun z => e z.2)]; exact h2 p (by omega))
    refine ⟨W', ?_, g2⟩
    rw [← g1]
    show f_J7_fill_53178_oX10r9_J5 _ _ _ _ _ _ = _
    unfold f_J7_fill_53178_oX10r9_J5
    rw [if_neg (ge6 (t := i) (by omega)), tx_ck_q (by omega) (by omega), tx_let_q, tx_let_q, nI_clamp (by omega), nI_1]
theorem fill_9 (fu : Nat) (hf : 1000 ≤ fu) (x : Int32) (W : S32) : ∃ W', f_J7_fill_53178_oX10r9 fu W x = some W' ∧ (∀ q, q ≠ 9 → W' q = W q) ∧ ∀ p, p < 6 → W' 9 p = x := fill_l9 fu x W 6 0 W fu (by omega) (by omega) (fun _ _ => rfl) (fun p hp => absurd hp (by omega))
theorem fill_l11 (fu : Nat) (x : Int32) (W0 : S32) : ∀ (m i : Nat) (W : S32) (n : Nat), i + m = 12 → m < n → (∀ q, q ≠ 11 → W q = W0 q) → (∀ p, p < i → W 11 p = x) → ∃ W', f_J7_fill_53178_oX10r11_L5 fu n W x (nI i) 12 = some W' ∧ (∀ q, q ≠ 11 → W' q = W0 q) ∧ ∀ p, p < 12 → W' 11 p = x := by
  intro m
  induction m with
  | zero =>
    intro i W n hi hn h1 h2
    obtain ⟨n, rfl⟩ := pos_ex hn
    have : i = 12 := by omega
    subst this
    refine ⟨W, ?_, h1, h2⟩
    show f_J7_fill_53178_oX10r11_J5 _ _ _ _ _ _ = _
    unfold f_J7_fill_53178_oX10r11_J5
    rw [if_pos (by decide)]
  | succ m ih =>
    intro i W n hi hn h1 h2
    obtain ⟨n, rfl⟩ := pos_ex hn
    obtain ⟨W', g1, g2⟩ := ih (i + 1) (up2 W 11 i x) n (by omega) (by omega) (fun q hq => (up2_n _ _ _ hq).trans (h1 q hq)) (fun p hp => by
      rw [up2_a]
      by_cases e : p = i
      · rw [if_pos ⟨rfl, e⟩]
      · rw [if_neg (fun z => e z.2)]; exact h2 p (by omega))
    refine ⟨W', ?_, g2⟩
    rw [← g1]
    show f_J7_fill_53178_oX10r11_J5 _ _ _ _ _ _ = _
    unfold f_J7_fill_53178_oX10r11_J5
    rw [if_neg (ge12 (t := i) (by omega)), tx_ck_q (by omega) (by omega), tx_let_q, tx_let_q, nI_clamp (by omega), nI_1]
theorem fill_11 (fu : Nat) (hf : 1000 ≤ fu) (x : Int32) (W : S32) : ∃ W', f_J7_fill_53178_oX10r11 fu W x = some W' ∧ (∀ q, q ≠ 11 → W' q = W q) ∧ ∀ p, p < 12 → W' 11 p = x := fill_l11 fu x W 12 0 W fu (by omega) (by omega) (fun _ _ => rfl) (fun p hp => absurd hp (by omega))
theorem fill_l12 (fu : Nat) (x : Int32) (W0 : S32) : ∀ (m i : Nat) (W : S32) (n : Nat), i + m = 12 → m < n → (∀ q, q ≠ 12 → W q = W0 q) → (∀ p, p < i → W 12 p = x) → ∃ W', f_J7_fill_53178_oX10r12_L5 fu n W x (nI i) 12 = some W' ∧ (∀ q, q ≠ 12 → W' q = W0 q) ∧ ∀ p, p < 12 → W' 12 p = x := by
  intro m
  induction m with
  | zero =>
    intro i W n hi hn h1 h2
    obtain ⟨n, rfl⟩ := pos_ex hn
    have : i = 12 := by omega
    subst this
    refine ⟨W, ?_, h1, h2⟩
    show f_J7_fill_53178_oX10r12_J5 _ _ _ _ _ _ = _
    unfold f_J7_fill_53178_oX10r12_J5
    rw [if_pos (by decide)]
  | succ m ih =>
    intro i W n hi hn h1 h2
    obtain ⟨n, rfl⟩ := pos_ex hn
    obtain ⟨W', g1, g2⟩ := ih (i + 1) (up2 W 12 i x) n (by omega) (by omega) (fun q hq => (up2_n _ _ _ hq).trans (h1 q hq)) (fun p hp => by
      rw [up2_a]
      by_cases e : p = i
      · rw [if_pos ⟨rfl, e⟩]
      · rw [if_neg (fun z => e z.2)]; exact h2 p (by omega))
    refine ⟨W', ?_, g2⟩
    rw [← g1]
    show f_J7_fill_53178_oX10r12_J5 _ _ _ _ _ _ = _
    unfold f_J7_fill_53178_oX10r12_J5
    rw [if_neg (ge12 (t := i) (by omega)), tx_ck_q (by omega) (by omega), tx_let_q, tx_let_q, nI_clamp (by omega), nI_1]
theorem fill_12 (fu : Nat) (hf : 1000 ≤ fu) (x : Int32) (W : S32) : ∃ W', f_J7_fill_53178_oX10r12 fu W x = some W' ∧ (∀ q, q ≠ 12 → W' q = W q) ∧ ∀ p, p < 12 → W' 12 p = x := fill_l12 fu x W 12 0 W fu (by omega) (by omega) (fun _ _ => rfl) (fun p hp => absurd hp (by omega))
theorem fill_l13 (fu : Nat) (x : Int32) (W0 : S32) : ∀ (m i : Nat) (W : S32) (n : Nat), i + m = 12 → m < n → (∀ q, q ≠ 13 → W q = W0 q) → (∀ p, p < i → W 13 p = x) → ∃ W', f_J7_fill_53178_oX10r13_L5 fu n W x (nI i) 12 = some W' ∧ (∀ q, q ≠ 13 → W' q = W0 q) ∧ ∀ p, p < 12 → W' 13 p = x := by
  intro m
  induction m with
  | zero =>
    intro i W n hi hn h1 h2
    obtain ⟨n, rfl⟩ := pos_ex hn
    have : i = 12 := by omega
    subst this
    refine ⟨W, ?_, h1, h2⟩
    show f_J7_fill_53178_oX10r13_J5 _ _ _ _ _ _ = _
    unfold f_J7_fill_53178_oX10r13_J5
    rw [if_pos (by decide)]
  | succ m ih =>
    intro i W n hi hn h1 h2
    obtain ⟨n, rfl⟩ := pos_ex hn
    obtain ⟨W', g1, g2⟩ := ih (i + 1) (up2 W 13 i x) n (by omega) (by omega) (fun q hq => (up2_n _ _ _ hq).trans (h1 q hq)) (fun p hp => by
      rw [up2_a]
      by_cases e : p = i
      · rw [if_pos ⟨rfl, e⟩]
      · rw [if_neg (fun z => e z.2)]; exact h2 p (by omega))
    refine ⟨W', ?_, g2⟩
    rw [← g1]
    show f_J7_fill_53178_oX10r13_J5 _ _ _ _ _ _ = _
    unfold f_J7_fill_53178_oX10r13_J5
    rw [if_neg (ge12 (t := i) (by omega)), tx_ck_q (by omega) (by omega), tx_let_q, tx_let_q, nI_clamp (by omega), nI_1]
theorem fill_13 (fu : Nat) (hf : 1000 ≤ fu) (x : Int32) (W : S32) : ∃ W', f_J7_fill_53178_oX10r13 fu W x = some W' ∧ (∀ q, q ≠ 13 → W' q = W q) ∧ ∀ p, p < 12 → W' 13 p = x := fill_l13 fu x W 12 0 W fu (by omega) (by omega) (fun _ _ => rfl) (fun p hp => absurd hp (by omega))
theorem fill_l6 (fu : Nat) (x : Int32) (W0 : S32) : ∀ (m i : Nat) (W : S32) (n : Nat), i + m = 6 → m < n → (∀ q, q ≠ 6 → W q = W0 q) → (∀ p, p < i → W 6 p = x) → ∃ W', f_J7_fill_53178_oX10r6_L5 fu n W x (nI i) 6 = some W' ∧ (∀ q, q ≠ 6 → W' q = W0 q) ∧ ∀ p, p < 6 → W' 6 p = x := by
  intro m
  induction m with
  | zero =>
    intro i W n hi hn h1 h2
    obtain ⟨n, rfl⟩ := pos_ex hn
    have : i = 6 := by omega
    subst this
    refine ⟨W, ?_, h1, h2⟩
    show f_J7_fill_53178_oX10r6_J5 _ _ _ _ _ _ = _
    unfold f_J7_fill_53178_oX10r6_J5
    rw [if_pos (by decide)]
  | succ m ih =>
    intro i W n hi hn h1 h2
    obtain ⟨n, rfl⟩ := pos_ex hn
    obtain ⟨W', g1, g2⟩ := ih (i + 1) (up2 W 6 i x) n (by omega) (by omega) (fun q hq => (up2_n _ _ _ hq).trans (h1 q hq)) (fun p hp => by
      rw [up2_a]
      by_cases e : p = i
      · rw [if_pos ⟨rfl, e⟩]
      · rw [if_neg (fun z => e z.2)]; exact h2 p (by omega))
    refine ⟨W', ?_, g2⟩
    rw [← g1]
    show f_J7_fill_53178_oX10r6_J5 _ _ _ _ _ _ = _
    unfold f_J7_fill_53178_oX10r6_J5
    rw [if_neg (ge6 (t := i) (by omega)), tx_ck_q (by omega) (by omega), tx_let_q, tx_let_q, nI_clamp (by omega), nI_1]
theorem fill_6 (fu : Nat) (hf : 1000 ≤ fu) (x : Int32) (W : S32) : ∃ W', f_J7_fill_53178_oX10r6 fu W x = some W' ∧ (∀ q, q ≠ 6 → W' q = W q) ∧ ∀ p, p < 6 → W' 6 p = x := fill_l6 fu x W 6 0 W fu (by omega) (by omega) (fun _ _ => rfl) (fun p hp => absurd hp (by omega))
theorem fill_l15 (fu : Nat) (x : Int32) (W0 : S32) : ∀ (m i : Nat) (W : S32) (n : Nat), i + m = 4 → m < n → (∀ q, q ≠ 15 → W q = W0 q) → (∀ p, p < i → W 15 p = x) → ∃ W', f_J7_fill_53178_oX10r15_L5 fu n W x (nI i) 4 = some W' ∧ (∀ q, q ≠ 15 → W' q = W0 q) ∧ ∀ p, p < 4 → W' 15 p = x := by
  intro m
  induction m with
  | zero =>
    intro i W n hi hn h1 h2
    obtain ⟨n, rfl⟩ := pos_ex hn
    have : i = 4 := by omega
    subst this
    refine ⟨W, ?_, h1, h2⟩
    show f_J7_fill_53178_oX10r15_J5 _ _ _ _ _ _ = _
    unfold f_J7_fill_53178_oX10r15_J5
    rw [if_pos (by decide)]
  | succ m ih =>
    intro i W n hi hn h1 h2
    obtain ⟨n, rfl⟩ := pos_ex hn
    obtain ⟨W', g1, g2⟩ := ih (i + 1) (up2 W 15 i x) n (by omega) (by omega) (fun q hq => (up2_n _ _ _ hq).trans (h1 q hq)) (fun p hp => by
      rw [up2_a]
      by_cases e : p = i
      · rw [if_pos ⟨rfl, e⟩]
      · rw [if_neg (fun z => e z.2)]; exact h2 p (by omega))
    refine ⟨W', ?_, g2⟩
    rw [← g1]
    show f_J7_fill_53178_oX10r15_J5 _ _ _ _ _ _ = _
    unfold f_J7_fill_53178_oX10r15_J5
    rw [if_neg (ge4 (t := i) (by omega)), tx_ck_q (by omega) (by omega), tx_let_q, tx_let_q, nI_clamp (by omega), nI_1]
theorem fill_15 (fu : Nat) (hf : 1000 ≤ fu) (x : Int32) (W : S32) : ∃ W', f_J7_fill_53178_oX10r15 fu W x = some W' ∧ (∀ q, q ≠ 15 → W' q = W q) ∧ ∀ p, p < 4 → W' 15 p = x := fill_l15 fu x W 4 0 W fu (by omega) (by omega) (fun _ _ => rfl) (fun p hp => absurd hp (by omega))
theorem fill_l14 (fu : Nat) (x : Int32) (W0 : S32) : ∀ (m i : Nat) (W : S32) (n : Nat), i + m = 4 → m < n → (∀ q, q ≠ 14 → W q = W0 q) → (∀ p, p < i → W 14 p = x) → ∃ W', f_J7_fill_53178_oX10r14_L5 fu n W x (nI i) 4 = some W' ∧ (∀ q, q ≠ 14 → W' q = W0 q) ∧ ∀ p, p < 4 → W' 14 p = x := by
  intro m
  induction m with
  | zero =>
    intro i W n hi hn h1 h2
    obtain ⟨n, rfl⟩ := pos_ex hn
    have : i = 4 := by omega
    subst this
    refine ⟨W, ?_, h1, h2⟩
    show f_J7_fill_53178_oX10r14_J5 _ _ _ _ _ _ = _
    unfold f_J7_fill_53178_oX10r14_J5
    rw [if_pos (by decide)]
  | succ m ih =>
    intro i W n hi hn h1 h2
    obtain ⟨n, rfl⟩ := pos_ex hn
    obtain ⟨W', g1, g2⟩ := ih (i + 1) (up2 W 14 i x) n (by omega) (by omega) (fun q hq => (up2_n _ _ _ hq).trans (h1 q hq)) (fun p hp => by
      rw [up2_a]
      by_cases e : p = i
      · rw [if_pos ⟨rfl, e⟩]
      · rw [if_neg (fun z => e z.2)]; exact h2 p (by omega))
    refine ⟨W', ?_, g2⟩
    rw [← g1]
    show f_J7_fill_53178_oX10r14_J5 _ _ _ _ _ _ = _
    unfold f_J7_fill_53178_oX10r14_J5
    rw [if_neg (ge4 (t := i) (by omega)), tx_ck_q (by omega) (by omega), tx_let_q, tx_let_q, nI_clamp (by omega), nI_1]
theorem fill_14 (fu : Nat) (hf : 1000 ≤ fu) (x : Int32) (W : S32) : ∃ W', f_J7_fill_53178_oX10r14 fu W x = some W' ∧ (∀ q, q ≠ 14 → W' q = W q) ∧ ∀ p, p < 4 → W' 14 p = x := fill_l14 fu x W 4 0 W fu (by omega) (by omega) (fun _ _ => rfl) (fun p hp => absurd hp (by omega))
