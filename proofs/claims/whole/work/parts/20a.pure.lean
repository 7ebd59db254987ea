/-! Layer 2: the functions by themselves -/
theorem tx_let_q {α β : Type} (x : α) (k : α → Option β) : tx_let x k = k x := rfl
theorem tx_b1_q {α γ : Type} (a : α) (k : α → Option γ) : tx_b1 (some a) k = k a := rfl
theorem tx_b2_q {α β γ : Type} (a : α) (b : β) (k : α → β → Option γ) : tx_b2 (some (a, b)) k = k a b := rfl
theorem tx_b3_q {α β δ γ : Type} (a : α) (b : β) (c : δ) (k : α → β → δ → Option γ) : tx_b3 (some (a, b, c)) k = k a b c := rfl
theorem tx_b4_q {α β δ ε γ : Type} (a : α) (b : β) (c : δ) (d : ε) (k : α → β → δ → ε → Option γ) : tx_b4 (some (a, b, c, d)) k = k a b c d := rfl
theorem tx_ck_q {β : Type} {j n : Nat} (h : j < n) (hn : n < 2 ^ 31) (k : Option β) : tx_ck (nI j) n k = k := by
  unfold tx_ck
  rw [if_neg (nI_in h hn)]
theorem tx_nz_q {β : Type} {y : Int32} (h : ¬ y = 0) (k : Option β) : tx_nz y k = k := by unfold tx_nz; rw [if_neg h]
theorem tx_bz_0 {β : Type} (k : Option β) : tx_bz 0 k = k := rfl
theorem tx_bz_1 {β : Type} (k : Option β) : tx_bz 1 k = k := rfl
theorem tx_bz_q {β : Type} {y : Int32} (h : y = 0 ∨ y = 1) (k : Option β) : tx_bz y k = k := by unfold tx_bz; rw [if_pos h]
theorem up2_r (b : S32) (r i : Nat) (v : Int32) : (up2 b r i v) r = upd (b r) i v := by unfold up2; rw [if_pos rfl]
theorem up2_n (b : S32) {r q : Nat} (i : Nat) (v : Int32) (h : q ≠ r) : (up2 b r i v) q = b q := by unfold up2; rw [if_neg h]
theorem up2_e (b : S32) (r i : Nat) (v : Int32) : (up2 b r i v) r i = v := by rw [up2_r]; unfold upd; rw [if_pos rfl]
theorem up2_i (b : S32) (r : Nat) {i j : Nat} (v : Int32) (h : j ≠ i) : (up2 b r i v) r j = b r j := by rw [up2_r]; unfold upd; rw [if_neg h]
theorem up2_a (b : S32) (r i q j : Nat) (v : Int32) : (up2 b r i v) q j = if q = r ∧ j = i then v else b q j := by
  by_cases h : q = r
  · subst h
    by_cases hj : j = i
    · subst hj; rw [up2_e, if_pos ⟨rfl, rfl⟩]
    · rw [up2_i _ _ _ hj, if_neg (fun z => hj z.2)]
  · rw [up2_n _ _ _ h, if_neg (fun z => h z.1)]
theorem rw2_r (b : S32) (r : Nat) (f : Nat → Int32) : (rw2 b r f) r = f := by unfold rw2; rw [if_pos rfl]
theorem rw2_n (b : S32) {r q : Nat} (f : Nat → Int32) (h : q ≠ r) : (rw2 b r f) q = b q := by unfold rw2; rw [if_neg h]
theorem nI_lit (n : Nat) : (OfNat.ofNat n : Int32) = nI n := rfl
/-! the tests of a man, a thought, a reader -/
theorem s_isMan (fu : Nat) (B : S32) (x : Int32) : f_X0_isMan fu B x = some (if ¬ x < 0 ∧ ¬ B 0 1 ≤ x ∧ ¬ (6 : Int32) ≤ x then 1 else 0) := by
  unfold f_X0_isMan
  by_cases h1 : x < 0
  · rw [if_pos h1, if_neg (fun h => h.1 h1)]
  · rw [if_neg h1]
    by_cases h2 : B 0 1 ≤ x
    · rw [if_pos h2, if_neg (fun h => h.2.1 h2)]
    · rw [if_neg h2]
      by_cases h3 : (6 : Int32) ≤ x
      · rw [if_pos h3, if_neg (fun h => h.2.2 h3)]
      · rw [if_neg h3, if_pos ⟨h1, h2, h3⟩]
