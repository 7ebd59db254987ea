theorem fl_sum7 {B W : S32} {np : Nat} (fu : Nat) (hB : B 0 1 = nI np) (hn : np ≤ 6) : ∀ (m t n : Nat) (a : Int32), t + m = np → m < n → f_X10_sum_tX10r7_L4 fu W B n a (nI t) = some (fd (fun (t : Nat) (a : Int32) => a + W 7 t) m t a) := by
  intro m
  induction m with
  | zero =>
    intro t n a ht hn2
    obtain ⟨n, rfl⟩ := pos_ex hn2
    show f_X10_sum_tX10r7_J4 _ _ _ _ _ _ = _
    unfold f_X10_sum_tX10r7_J4
    rw [hB, if_pos (nI_le (by omega) (by omega))]
    rfl
  | succ m ih =>
    intro t n a ht hn2
    obtain ⟨n, rfl⟩ := pos_ex hn2
    have hlt : t < np := by omega
    show f_X10_sum_tX10r7_J4 _ _ _ _ _ _ = some (fd _ m (t + 1) _)
    unfold f_X10_sum_tX10r7_J4
    rw [hB, if_neg (ge_lit (t := t) (by omega) (by omega)), if_neg (ge6 (t := t) (by omega)), if_neg (ge6 (t := t) (by omega)), ← ih (t + 1) n _ (by omega) (by omega)]
    simp (disch := omega) only [tx_ck_q, nI_clamp, tx_let_q, tx_b1_q, nI_1]
theorem fl_paidAll {M : S32} {v : S64} {np b : Nat} (fu : Nat) (hM : M 0 12 = nI np) (hn : np ≤ 6) (hb : b ≤ 1) : ∀ (m t n : Nat) (a : Int32), t + m = np → m < n → f_X12_paidAll_L4 fu M v n (nI b) a (nI t) = some (fd (fun (t : Nat) (a : Int32) => a + M 54 (6 * b + t)) m t a) := by
  intro m
  induction m with
  | zero =>
    intro t n a ht hn2
    obtain ⟨n, rfl⟩ := pos_ex hn2
    show f_X12_paidAll_J4 _ _ _ _ _ _ _ = _
    unfold f_X12_paidAll_J4
    rw [hM, if_pos (nI_le (by omega) (by omega))]
    rfl
  | succ m ih =>
    intro t n a ht hn2
    obtain ⟨n, rfl⟩ := pos_ex hn2
    have hlt : t < np := by omega
    show f_X12_paidAll_J4 _ _ _ _ _ _ _ = some (fd _ m (t + 1) _)
    unfold f_X12_paidAll_J4
    rw [hM, if_neg (ge_lit (t := t) (by omega) (by omega)), ← ih (t + 1) n _ (by omega) (by omega)]
    simp (disch := omega) only [ix6, tx_ck_q, nI_clamp, tx_let_q, tx_b1_q, nI_1]
theorem fl_sum8 {B W : S32} {np : Nat} (fu : Nat) (hB : B 0 1 = nI np) (hn : np ≤ 6) : ∀ (m t n : Nat) (a : Int32), t + m = np → m < n → f_X10_sum_tX10r8_L4 fu W B n a (nI t) = some (fd (fun (t : Nat) (a : Int32) => a + W 8 t) m t a) := by
  intro m
  induction m with
  | zero =>
    intro t n a ht hn2
    obtain ⟨n, rfl⟩ := pos_ex hn2
    show f_X10_sum_tX10r8_J4 _ _ _ _ _ _ = _
    unfold f_X10_sum_tX10r8_J4
    rw [hB, if_pos (nI_le (by omega) (by omega))]
    rfl
  | succ m ih =>
    intro t n a ht hn2
    obtain ⟨n, rfl⟩ := pos_ex hn2
    have hlt : t < np := by omega
    show f_X10_sum_tX10r8_J4 _ _ _ _ _ _ = some (fd _ m (t + 1) _)
    unfold f_X10_sum_tX10r8_J4
    rw [hB, if_neg (ge_lit (t := t) (by omega) (by omega)), if_neg (ge6 (t := t) (by omega)), if_neg (ge6 (t := t) (by omega)), ← ih (t + 1) n _ (by omega) (by omega)]
    simp (disch := omega) only [tx_ck_q, nI_clamp, tx_let_q, tx_b1_q, nI_1]
theorem fl_owedAll {M : S32} {v : S64} {np b : Nat} (fu : Nat) (hM : M 0 12 = nI np) (hn : np ≤ 6) (hb : b ≤ 1) : ∀ (m t n : Nat) (a : Int32), t + m = np → m < n → f_X12_owedAll_L4 fu M v n (nI b) a (nI t) = some (fd (fun (t : Nat) (a : Int32) => a + M 55 (6 * b + t)) m t a) := by
  intro m
  induction m with
  | zero =>
    intro t n a ht hn2
    obtain ⟨n, rfl⟩ := pos_ex hn2
    show f_X12_owedAll_J4 _ _ _ _ _ _ _ = _
    unfold f_X12_owedAll_J4
    rw [hM, if_pos (nI_le (by omega) (by omega))]
    rfl
  | succ m ih =>
    intro t n a ht hn2
    obtain ⟨n, rfl⟩ := pos_ex hn2
    have hlt : t < np := by omega
    show f_X12_owedAll_J4 _ _ _ _ _ _ _ = some (fd _ m (t + 1) _)
    unfold f_X12_owedAll_J4
    rw [hM, if_neg (ge_lit (t := t) (by omega) (by omega)), ← ih (t + 1) n _ (by omega) (by omega)]
    simp (disch := omega) only [ix6, tx_ck_q, nI_clamp, tx_let_q, tx_b1_q, nI_1]
theorem fl_heldBits {B W : S32} {nt : Nat} (fu : Nat) (hB : B 0 5 = nI nt) (hn : nt ≤ 12) (x : Int32) : ∀ (m t n : Nat) (a : Int32), t + m = nt → m < n → f_X10_heldBits_L4 fu W B n x a (nI t) = some (fd (fun (t : Nat) (a : Int32) => a ||| if W 11 t = 1 ∧ W 12 t = x then (1 : Int32) <<< (nI t &&& 31) else 0) m t a) := by
  intro m
  induction m with
  | zero =>
    intro t n a ht hn2
    obtain ⟨n, rfl⟩ := pos_ex hn2
    show f_X10_heldBits_J4 _ _ _ _ _ _ _ = _
    unfold f_X10_heldBits_J4
    rw [hB, if_pos (nI_le (by omega) (by omega))]
    rfl
  | succ m ih =>
    intro t n a ht hn2
    obtain ⟨n, rfl⟩ := pos_ex hn2
    have hlt : t < nt := by omega
    show f_X10_heldBits_J4 _ _ _ _ _ _ _ = some (fd _ m (t + 1) _)
    unfold f_X10_heldBits_J4 f_X10_heldBits_J38
    rw [hB, if_neg (ge_lit (t := t) (by omega) (by omega)), if_neg (ge12 (t := t) (by omega)), ← ih (t + 1) n _ (by omega) (by omega)]
    simp (disch := omega) only [c_heldAt fu hB hn hlt, tx_ck_q, nI_clamp, tx_let_q, tx_b1_q, nI_1]
    by_cases h0 : W 11 t = 1 <;> by_cases h1 : W 12 t = x <;> simp [h0, h1]
theorem fl_holds {M : S32} {v : S64} {nt : Nat} (fu : Nat) (hM : M 0 13 = nI nt) (hn : nt ≤ 12) (x : Int32) : ∀ (m t n : Nat) (a : Int32), t + m = nt → m < n → f_X12_holds_L19 fu v n M x a (nI t) = some (fd (fun (t : Nat) (a : Int32) => a ||| if M 50 t = 1 ∧ M 51 t = x then (1 : Int32) <<< (nI t &&& 31) else 0) m t a, M) := by
  intro m
  induction m with
  | zero =>
    intro t n a ht hn2
    obtain ⟨n, rfl⟩ := pos_ex hn2
    show f_X12_holds_J19 _ _ _ _ _ _ _ = _
    unfold f_X12_holds_J19
    rw [hM, if_pos (nI_le (by omega) (by omega))]
    rfl
  | succ m ih =>
    intro t n a ht hn2
    obtain ⟨n, rfl⟩ := pos_ex hn2
    have hlt : t < nt := by omega
    show f_X12_holds_J19 _ _ _ _ _ _ _ = some (fd _ m (t + 1) _, M)
    unfold f_X12_holds_J19 f_X12_holds_J54 f_X12_holds_J55
    rw [hM, if_neg (ge_lit (t := t) (by omega) (by omega)), ← ih (t + 1) n _ (by omega) (by omega)]
    simp (disch := omega) only [tx_ck_q, nI_clamp, tx_let_q, tx_b1_q, nI_1]
    by_cases h0 : M 50 t = 1 <;> by_cases h1 : M 51 t = x <;> simp [h0, h1]
theorem fl_hiddenBits {B W : S32} {np nt nr : Nat} (fu : Nat) (hB : B 0 5 = nI nt) (hn : nt ≤ 12) (hB1 : B 0 1 = nI np) (hp : np ≤ 6) (hi : wdIn W np nt nr) : ∀ (m t n : Nat) (a : Int32), t + m = nt → m < n → f_X10_hiddenBits_L4 fu W B n a (nI t) = some (fd (fun (t : Nat) (a : Int32) => a ||| if W 11 t = 1 ∧ ¬ W 12 t = B 7 t then (1 : Int32) <<< (nI t &&& 31) else 0) m t a) := by
  intro m
  induction m with
  | zero =>
    intro t n a ht hn2
    obtain ⟨n, rfl⟩ := pos_ex hn2
    show f_X10_hiddenBits_J4 _ _ _ _ _ _ = _
    unfold f_X10_hiddenBits_J4
    rw [hB, if_pos (nI_le (by omega) (by omega))]
    rfl
  | succ m ih =>
    intro t n a ht hn2
    obtain ⟨n, rfl⟩ := pos_ex hn2
    have hlt : t < nt := by omega
    show f_X10_hiddenBits_J4 _ _ _ _ _ _ = some (fd _ m (t + 1) _)
    unfold f_X10_hiddenBits_J4 f_X10_hiddenBits_J54 f_X10_hiddenBits_J55
    rw [hB, if_neg (ge_lit (t := t) (by omega) (by omega)), if_neg (ge12 (t := t) (by omega)), ← ih (t + 1) n _ (by omega) (by omega)]
    simp (disch := omega) only [c_held fu hB hn hB1 hp hi hlt, tx_ck_q, nI_clamp, tx_let_q, tx_b1_q, nI_1]
    by_cases h0 : W 11 t = 1 <;> by_cases h1 : W 12 t = B 7 t <;> simp [h0, h1]
theorem fl_hidden {M : S32} {v : S64} {nt : Nat} (fu : Nat) (hM : M 0 13 = nI nt) (hn : nt ≤ 12) : ∀ (m t n : Nat) (a : Int32), t + m = nt → m < n → f_X12_hidden_L9 fu v n M a (nI t) = some (fd (fun (t : Nat) (a : Int32) => a ||| if M 50 t = 1 ∧ ¬ M 51 t = M 26 t then (1 : Int32) <<< (nI t &&& 31) else 0) m t a, M) := by
  intro m
  induction m with
  | zero =>
    intro t n a ht hn2
    obtain ⟨n, rfl⟩ := pos_ex hn2
    show f_X12_hidden_J9 _ _ _ _ _ _ = _
    unfold f_X12_hidden_J9
    rw [hM, if_pos (nI_le (by omega) (by omega))]
    rfl
  | succ m ih =>
    intro t n a ht hn2
    obtain ⟨n, rfl⟩ := pos_ex hn2
    have hlt : t < nt := by omega
    show f_X12_hidden_J9 _ _ _ _ _ _ = some (fd _ m (t + 1) _, M)
    unfold f_X12_hidden_J9 f_X12_hidden_J49 f_X12_hidden_J50
    rw [hM, if_neg (ge_lit (t := t) (by omega) (by omega)), ← ih (t + 1) n _ (by omega) (by omega)]
    simp (disch := omega) only [tx_ck_q, nI_clamp, tx_let_q, tx_b1_q, nI_1]
    by_cases h0 : M 50 t = 1 <;> by_cases h1 : M 51 t = M 26 t <;> simp [h0, h1]
theorem fl_holdersOf {B W : S32} {np nt nr : Nat} (fu : Nat) (hB : B 0 5 = nI nt) (hn : nt ≤ 12) (hB1 : B 0 1 = nI np) (hp : np ≤ 6) (hi : wdIn W np nt nr) (x y : Int32) : ∀ (m t n : Nat) (a : Int32), t + m = nt → m < n → f_X10_holdersOf_L5 fu W B n x y a (nI t) = some (fd (fun (t : Nat) (a : Int32) => if W 11 t = 1 ∧ B 8 t = x ∧ B 10 t = y then a ||| (1 : Int32) <<< (W 12 t &&& 31) else a) m t a) := by
  intro m
  induction m with
  | zero =>
    intro t n a ht hn2
    obtain ⟨n, rfl⟩ := pos_ex hn2
    show f_X10_holdersOf_J5 _ _ _ _ _ _ _ _ = _
    unfold f_X10_holdersOf_J5
    rw [hB, if_pos (nI_le (by omega) (by omega))]
    rfl
  | succ m ih =>
    intro t n a ht hn2
    obtain ⟨n, rfl⟩ := pos_ex hn2
    have hlt : t < nt := by omega
    show f_X10_holdersOf_J5 _ _ _ _ _ _ _ _ = some (fd _ m (t + 1) _)
    unfold f_X10_holdersOf_J5 f_X10_holdersOf_J73
    rw [hB, if_neg (ge_lit (t := t) (by omega) (by omega)), if_neg (ge12 (t := t) (by omega)), ← ih (t + 1) n _ (by omega) (by omega)]
    simp (disch := omega) only [c_held fu hB hn hB1 hp hi hlt, tx_ck_q, nI_clamp, tx_let_q, tx_b1_q, nI_1]
    by_cases h0 : W 11 t = 1 <;> by_cases h1 : B 8 t = x <;> by_cases h2 : B 10 t = y <;> simp [h0, h1, h2]
theorem fl_whose {M : S32} {v : S64} {nt : Nat} (fu : Nat) (hM : M 0 13 = nI nt) (hn : nt ≤ 12) (x y : Int32) : ∀ (m t n : Nat) (a : Int32), t + m = nt → m < n → f_X12_whose_L31 fu v n M x y a (nI t) = some (fd (fun (t : Nat) (a : Int32) => if M 50 t = 1 ∧ M 27 t = x ∧ M 29 t = y then a ||| (1 : Int32) <<< (M 51 t &&& 31) else a) m t a, M) := by
  intro m
  induction m with
  | zero =>
    intro t n a ht hn2
    obtain ⟨n, rfl⟩ := pos_ex hn2
    show f_X12_whose_J31 _ _ _ _ _ _ _ _ = _
    unfold f_X12_whose_J31
    rw [hM, if_pos (nI_le (by omega) (by omega))]
    rfl
  | succ m ih =>
    intro t n a ht hn2
    obtain ⟨n, rfl⟩ := pos_ex hn2
    have hlt : t < nt := by omega
    show f_X12_whose_J31 _ _ _ _ _ _ _ _ = some (fd _ m (t + 1) _, M)
    unfold f_X12_whose_J31 f_X12_whose_J86 f_X12_whose_J87
    rw [hM, if_neg (ge_lit (t := t) (by omega) (by omega)), ← ih (t + 1) n _ (by omega) (by omega)]
    simp (disch := omega) only [tx_ck_q, nI_clamp, tx_let_q, tx_b1_q, nI_1]
    by_cases h0 : M 50 t = 1 <;> by_cases h1 : M 27 t = x <;> by_cases h2 : M 29 t = y <;> simp [h0, h1, h2]
theorem fl_heldWorthAt {B W : S32} {nt : Nat} (fu : Nat) (hB : B 0 5 = nI nt) (hn : nt ≤ 12) (x : Int32) : ∀ (m t n : Nat) (a : Int32), t + m = nt → m < n → f_X10_heldWorthAt_L4 fu W B n x a (nI t) = some (fd (fun (t : Nat) (a : Int32) => a + if W 11 t = 1 ∧ W 12 t = x then B 8 t else 0) m t a) := by
  intro m
  induction m with
  | zero =>
    intro t n a ht hn2
    obtain ⟨n, rfl⟩ := pos_ex hn2
    show f_X10_heldWorthAt_J4 _ _ _ _ _ _ _ = _
    unfold f_X10_heldWorthAt_J4
    rw [hB, if_pos (nI_le (by omega) (by omega))]
    rfl
  | succ m ih =>
    intro t n a ht hn2
    obtain ⟨n, rfl⟩ := pos_ex hn2
    have hlt : t < nt := by omega
    show f_X10_heldWorthAt_J4 _ _ _ _ _ _ _ = some (fd _ m (t + 1) _)
    unfold f_X10_heldWorthAt_J4 f_X10_heldWorthAt_J44
    rw [hB, if_neg (ge_lit (t := t) (by omega) (by omega)), if_neg (ge12 (t := t) (by omega)), ← ih (t + 1) n _ (by omega) (by omega)]
    simp (disch := omega) only [c_heldAt fu hB hn hlt, tx_ck_q, nI_clamp, tx_let_q, tx_b1_q, nI_1]
    by_cases h0 : W 11 t = 1 <;> by_cases h1 : W 12 t = x <;> simp [h0, h1]
theorem fl_heldWorth {B W : S32} {np nt nr : Nat} (fu : Nat) (hB : B 0 5 = nI nt) (hn : nt ≤ 12) (hB1 : B 0 1 = nI np) (hp : np ≤ 6) (hi : wdIn W np nt nr) : ∀ (m t n : Nat) (a : Int32), t + m = nt → m < n → f_X10_heldWorth_L4 fu W B n a (nI t) = some (fd (fun (t : Nat) (a : Int32) => a + if W 11 t = 1 then B 8 t else 0) m t a) := by
  intro m
  induction m with
  | zero =>
    intro t n a ht hn2
    obtain ⟨n, rfl⟩ := pos_ex hn2
    show f_X10_heldWorth_J4 _ _ _ _ _ _ = _
    unfold f_X10_heldWorth_J4
    rw [hB, if_pos (nI_le (by omega) (by omega))]
    rfl
  | succ m ih =>
    intro t n a ht hn2
    obtain ⟨n, rfl⟩ := pos_ex hn2
    have hlt : t < nt := by omega
    show f_X10_heldWorth_J4 _ _ _ _ _ _ = some (fd _ m (t + 1) _)
    unfold f_X10_heldWorth_J4 f_X10_heldWorth_J43
    rw [hB, if_neg (ge_lit (t := t) (by omega) (by omega)), if_neg (ge12 (t := t) (by omega)), ← ih (t + 1) n _ (by omega) (by omega)]
    simp (disch := omega) only [c_held fu hB hn hB1 hp hi hlt, tx_ck_q, nI_clamp, tx_let_q, tx_b1_q, nI_1]
    by_cases h0 : W 11 t = 1 <;> simp [h0]
