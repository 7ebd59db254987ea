/-! each part of the relation sees its own rows alone -/
theorem pj_row (M : S32) {r q i : Nat} (v : Int32) (h : r ≠ q) : pj (up2 M q i v) r = pj M r := by
  funext j
  unfold pj
  rw [up2_n _ _ _ h]
theorem pj_f (M : S32) {j i : Nat} (v : Int32) (h : j ≠ i) : pj (up2 M 0 i v) 0 j = pj M 0 j := by
  unfold pj
  rw [up2_i _ _ _ h]
theorem pj_e (M : S32) {r i : Nat} (v : Int32) (h : rl r i = true) : pj (up2 M r i v) r i = v := by
  rw [pj_in h, up2_e]
theorem pj_i (M : S32) {r i j : Nat} (v : Int32) (h : j ≠ i) : pj (up2 M r i v) r j = pj M r j := by
  unfold pj
  rw [up2_i _ _ _ h]
theorem bkOK.c {B M M' : S32} {np nt nr : Nat} (h : bkOK B M np nt nr) (e : ∀ r, 22 ≤ r → r ≤ 32 → M' r = M r) (e1 : M' 0 12 = M 0 12) (e2 : M' 0 13 = M 0 13) (e3 : M' 0 14 = M 0 14) : bkOK B M' np nt nr := by
  unfold bkOK
  rw [e1, e2, e3, e 22 (by omega) (by omega), e 23 (by omega) (by omega), e 24 (by omega) (by omega), e 25 (by omega) (by omega), e 26 (by omega) (by omega), e 27 (by omega) (by omega), e 28 (by omega) (by omega), e 29 (by omega) (by omega), e 30 (by omega) (by omega), e 31 (by omega) (by omega), e 32 (by omega) (by omega)]
  exact h
theorem knW.c {M M' : S32} (e : ∀ r, 36 ≤ r → r ≤ 38 → M' r = M r) : ∀ n i st, knW M n i st → knW M' n i st := by
  intro n
  induction n with
  | zero => intro i st h; exact h
  | succ n ih =>
    intro i st h
    unfold knW
    rw [e 36 (by omega) (by omega), e 37 (by omega) (by omega), e 38 (by omega) (by omega)]
    rcases h with ⟨a, b, c⟩ | ⟨a, b, c⟩ | ⟨a, x, s, b, c, d⟩ | ⟨a, y, x, s, b, c, d, f⟩
    · exact Or.inl ⟨a, b, ih _ _ c⟩
    · exact Or.inr (Or.inl ⟨a, b, ih _ _ c⟩)
    · exact Or.inr (Or.inr (Or.inl ⟨a, x, s, b, c, ih _ _ d⟩))
    · exact Or.inr (Or.inr (Or.inr ⟨a, y, x, s, b, c, d, ih _ _ f⟩))
theorem lwOK.c {L M M' : S32} (h : lwOK L M) (e : ∀ r, 33 ≤ r → r ≤ 38 → M' r = M r) (e1 : M' 0 15 = M 0 15) : lwOK L M' := by
  obtain ⟨n, h1, h2, h3, h4, h5⟩ := h
  refine ⟨n, h1, h2, e1.trans h3, ?_, ?_⟩
  · rw [e 36 (by omega) (by omega), e 37 (by omega) (by omega)]
    exact h4
  · intro j hj
    rw [e 33 (by omega) (by omega), e 34 (by omega) (by omega), e 35 (by omega) (by omega)]
    rcases h5 j hj with h | ⟨a, x, y, b1, b2, b3, b4, b5, b6, b7⟩
    · exact Or.inl h
    · exact Or.inr ⟨a, x, y, b1, b2, b3, b4, b5, b6, knW.c (fun r h1 h2 => e r (by omega) h2) _ _ _ b7⟩
theorem wdOK.c {W M M' : S32} {b np nt : Nat} (h : wdOK W M b np nt) (e : ∀ r, 51 ≤ r → r ≤ 59 → M' r = M r) : wdOK W M' b np nt := by
  unfold wdOK
  rw [e 51 (by omega) (by omega), e 52 (by omega) (by omega), e 53 (by omega) (by omega), e 54 (by omega) (by omega), e 55 (by omega) (by omega), e 56 (by omega) (by omega), e 57 (by omega) (by omega), e 58 (by omega) (by omega), e 59 (by omega) (by omega)]
  exact h
theorem tpOK.c {P M M' : S32} (h : tpOK P M) (e1 : M' 0 1 = M 0 1) (e2 : M' 1 = M 1) : tpOK P M' := by
  unfold tpOK
  rw [e1, e2]
  exact h
theorem fdOK.c {F M M' : S32} {nt : Nat} (h : fdOK F M nt) (e1 : M' 0 71 = M 0 71) (e2 : M' 0 72 = M 0 72) (e3 : M' 74 = M 74) : fdOK F M' nt := by
  unfold fdOK
  rw [e1, e2, e3]
  exact h
theorem imOK.c {kB q0 : Nat} {T W2 B M M' : S32} {idr : Int64} {np nt nr : Nat} (h : imOK kB q0 T W2 B M idr np nt nr) (e1 : M' 0 77 = M 0 77) (e2 : M' 79 = M 79) (e3 : M' 80 = M 80) : imOK kB q0 T W2 B M' idr np nt nr := by
  unfold imOK snOK
  rw [e1, e2, e3]
  exact h
theorem udN.c {D B M M' : S32} {np nt nr : Nat} (e : M' 77 = M 77) : ∀ n W, udN D B M np nt nr n W → udN D B M' np nt nr n W := by
  intro n
  induction n with
  | zero => intro W h; exact h
  | succ n ih =>
    intro W h
    obtain ⟨h1, h2, h3, h4⟩ := h
    refine ⟨h1, ?_, h3, ih _ h4⟩
    unfold snOK
    rw [e]
    exact h2
theorem udOK.c {D W B M M' : S32} {np nt nr : Nat} (h : udOK D W B M np nt nr) (e1 : M' 0 75 = M 0 75) (e2 : M' 77 = M 77) : udOK D W B M' np nt nr := by
  obtain ⟨n, h1, h2, h3, h4⟩ := h
  exact ⟨n, h1, h2, e1.trans h3, udN.c e2 _ _ h4⟩
