/-! loops as folds -/
def fd {α : Type} (g : Nat → α → α) : Nat → Nat → α → α
  | 0, _, a => a
  | m + 1, t, a => fd g m (t + 1) (g t a)
theorem fd_congr {α : Type} {g g' : Nat → α → α} {n : Nat} (h : ∀ t, t < n → ∀ a, g t a = g' t a) : ∀ m t a, t + m ≤ n → fd g m t a = fd g' m t a := by
  intro m
  induction m with
  | zero => intro t a _; rfl
  | succ m ih =>
    intro t a ht
    show fd g m (t + 1) (g t a) = fd g' m (t + 1) (g' t a)
    rw [h t (by omega) a]
    exact ih _ _ (by omega)
theorem ix12 (b t : Nat) : (12 : Int32) * nI b + nI t = nI (12 * b + t) := by rw [show (12 : Int32) = nI 12 from rfl, pk_mul, nI_add]
theorem ix6 (b t : Nat) : (6 : Int32) * nI b + nI t = nI (6 * b + t) := by rw [show (6 : Int32) = nI 6 from rfl, pk_mul, nI_add]
theorem fl_count {B W : S32} {nt : Nat} (fu : Nat) (hB : B 0 5 = nI nt) (hn : nt ≤ 12) (x : Int32) : ∀ m t n a, t + m = nt → m < n → f_X10_countOf_L4 fu W B n x a (nI t) = some (fd (fun (t : Nat) (a : Int32) => a + if W 11 t = x then 1 else 0) m t a) := by
  intro m
  induction m with
  | zero =>
    intro t n a ht hn2
    obtain ⟨n, rfl⟩ := pos_ex hn2
    show f_X10_countOf_J4 _ _ _ _ _ _ _ = _
    unfold f_X10_countOf_J4
    rw [hB, if_pos (nI_le (by omega) (by omega))]
    rfl
  | succ m ih =>
    intro t n a ht hn2
    obtain ⟨n, rfl⟩ := pos_ex hn2
    show f_X10_countOf_J4 _ _ _ _ _ _ _ = some (fd _ m (t + 1) _)
    unfold f_X10_countOf_J4 f_X10_countOf_J37
    rw [hB, if_neg (ge_lit (t := t) (by omega) (by omega)), if_neg (ge12 (t := t) (by omega)), ← ih (t + 1) n _ (by omega) (by omega)]
    simp (disch := omega) only [tx_ck_q, nI_clamp, tx_let_q, tx_b1_q, nI_1]
    by_cases h : W 11 t = x <;> simp only [h, if_true, if_false]
theorem fl_are {M : S32} {v : S64} {nt b : Nat} (fu : Nat) (hM : M 0 13 = nI nt) (hn : nt ≤ 12) (hb : b ≤ 1) (x : Int32) : ∀ m t n a, t + m = nt → m < n → f_X12_are_L5 fu M v n (nI b) x a (nI t) = some (fd (fun (t : Nat) (a : Int32) => a + if M 50 (12 * b + t) = x then 1 else 0) m t a) := by
  intro m
  induction m with
  | zero =>
    intro t n a ht hn2
    obtain ⟨n, rfl⟩ := pos_ex hn2
    show f_X12_are_J5 _ _ _ _ _ _ _ _ = _
    unfold f_X12_are_J5
    rw [hM, if_pos (nI_le (by omega) (by omega))]
    rfl
  | succ m ih =>
    intro t n a ht hn2
    obtain ⟨n, rfl⟩ := pos_ex hn2
    show f_X12_are_J5 _ _ _ _ _ _ _ _ = some (fd _ m (t + 1) _)
    unfold f_X12_are_J5 f_X12_are_J36
    rw [hM, if_neg (ge_lit (t := t) (by omega) (by omega)), ← ih (t + 1) n _ (by omega) (by omega)]
    simp (disch := omega) only [ix12, tx_ck_q, nI_clamp, tx_let_q, tx_b1_q, nI_1]
    by_cases h : M 50 (12 * b + t) = x <;> simp only [h, if_true, if_false]
theorem s_count {B W : S32} {nt : Nat} (fu : Nat) (hf : 1000 ≤ fu) (hB : B 0 5 = nI nt) (hn : nt ≤ 12) (x : Int32) : f_X10_countOf fu W B x = some (fd (fun (t : Nat) (a : Int32) => a + if W 11 t = x then 1 else 0) nt 0 0) := fl_count fu hB hn x nt 0 fu 0 (by omega) (by omega)
theorem s_are {M : S32} {v : S64} {nt b : Nat} (fu : Nat) (hf : 1000 ≤ fu) (hM : M 0 13 = nI nt) (hn : nt ≤ 12) (hb : b ≤ 1) (x : Int32) : f_X12_are fu M v (nI b) x = some (fd (fun (t : Nat) (a : Int32) => a + if M 50 (12 * b + t) = x then 1 else 0) nt 0 0) := fl_are fu hM hn hb x nt 0 fu 0 (by omega) (by omega)
