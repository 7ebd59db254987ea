/-! what a relation may see of the reference's rows: the rest is scratch -/
def rl (r i : Nat) : Bool :=
  if r = 0 then [1, 4, 5, 12, 13, 14, 15, 71, 72, 75, 77].contains i
  else if r = 1 ∨ r = 4 then true
  else if r = 22 ∨ r = 33 ∨ r = 34 ∨ r = 35 then decide (i < 3)
  else if r = 23 ∨ r = 24 ∨ r = 25 ∨ r = 53 ∨ r = 54 ∨ r = 55 ∨ r = 56 ∨ r = 57 then decide (i < 6)
  else if r = 26 ∨ r = 27 ∨ r = 28 ∨ r = 29 ∨ r = 50 ∨ r = 51 ∨ r = 52 then decide (i < 12)
  else if r = 30 ∨ r = 31 ∨ r = 32 then decide (i < 4)
  else if r = 36 ∨ r = 37 ∨ r = 38 then decide (i < 64)
  else if r = 58 ∨ r = 59 then decide (i < 1)
  else if r = 74 ∨ r = 77 ∨ r = 79 ∨ r = 80 then true
  else false
def pj (M : S32) : S32 := fun r i => if rl r i = true then M r i else 0
theorem pj_in {M : S32} {r i : Nat} (h : rl r i = true) : pj M r i = M r i := by unfold pj; rw [if_pos h]
theorem pj_up {M : S32} {r i : Nat} (v : Int32) (h : rl r i = false) : pj (up2 M r i v) = pj M := by
  funext q j
  unfold pj
  rw [up2_a]
  by_cases hq : q = r ∧ j = i
  · obtain ⟨rfl, rfl⟩ := hq
    rw [h]
    rfl
  · rw [if_neg hq]
/-- the book of the class and the one of the reference -/
def bkOK (B M : S32) (np nt nr : Nat) : Prop :=
  (np ≤ 6 ∧ nt ≤ 12 ∧ nr ≤ 4) ∧
  (B 0 1 = nI np ∧ M 0 12 = nI np) ∧ (B 0 5 = nI nt ∧ M 0 13 = nI nt) ∧ (B 0 10 = nI nr ∧ M 0 14 = nI nr) ∧
  (∀ p, p < np → B 3 p = M 23 p ∧ B 4 p = M 24 p ∧ B 5 p = M 25 p) ∧
  (∀ t, t < nt → B 7 t = M 26 t ∧ B 8 t = M 27 t ∧ B 9 t = M 28 t ∧ B 10 t = M 29 t) ∧
  (∀ r, r < nr → B 12 r = M 30 r ∧ B 13 r = M 31 r ∧ B 14 r = M 32 r) ∧
  (B 0 14 = M 22 0 ∧ B 0 15 = M 22 1 ∧ B 0 16 = M 22 2)
def bkIn (B : S32) (np nt nr : Nat) : Prop :=
  (∀ p, p < np → (∃ a, a ≤ 999 ∧ B 4 p = nI a) ∧ (∃ a, a ≤ 9 ∧ B 5 p = nI a)) ∧
  (∀ t, t < nt → (∃ a, a < np ∧ B 7 t = nI a) ∧ (∃ a, 1 ≤ a ∧ a ≤ 99 ∧ B 8 t = nI a) ∧ (∃ a, a ≤ 99 ∧ B 9 t = nI a) ∧ (∃ a, a ≤ 3 ∧ B 10 t = nI a)) ∧
  (∀ r, r < nr → (∃ a, a ≤ 9 ∧ B 13 r = nI a) ∧ (∃ a, a ≤ 15 ∧ B 14 r = nI a)) ∧
  (∃ a, a ≤ 100 ∧ B 0 14 = nI a) ∧ (∃ a, 1 ≤ a ∧ a ≤ 99 ∧ B 0 15 = nI a) ∧ (∃ a, a ≤ 99999 ∧ B 0 16 = nI a)
/-- a world of the class and the reference's number b (0 the present, 1 the tried) -/
def wdOK (W M : S32) (b np nt : Nat) : Prop :=
  (∀ p, p < np → W 5 p = M 53 (6 * b + p) ∧ W 7 p = M 54 (6 * b + p) ∧ W 8 p = M 55 (6 * b + p) ∧ W 9 p = M 56 (6 * b + p) ∧ W 10 p = M 57 (6 * b + p)) ∧
  (∀ t, t < nt → W 12 t = M 51 (12 * b + t) ∧ W 13 t = M 52 (12 * b + t)) ∧
  (W 0 2 = M 58 b ∧ W 0 1 = M 59 b)
/-- the week, and what was paid and is owed till then -/
def wkOK (W : S32) (np w : Nat) : Prop := W 0 1 = nI w ∧ ∀ p, p < np → (∃ a, a ≤ 999 * w ∧ W 7 p = nI a) ∧ (∃ a, a ≤ 999 * w ∧ W 8 p = nI a)
def wdPp (W : S32) (np nr : Nat) : Prop := ∀ p, p < np → (∃ a, a ≤ 999 ∧ W 5 p = nI a) ∧ (∃ a, a ≤ 9 ∧ W 9 p = nI a) ∧ ((nr = 0 ∧ W 10 p = -1) ∨ (∃ a, a < nr ∧ W 10 p = nI a))
def wdTt (W : S32) (np nt : Nat) : Prop := ∀ t, t < nt → (W 11 t = 1 ∧ ∃ a, a < np ∧ W 12 t = nI a) ∨ ((W 11 t = 0 ∨ W 11 t = 2) ∧ W 12 t = -1)
def wdIn (W : S32) (np nt nr : Nat) : Prop :=
  wdPp W np nr ∧ wdTt W np nt ∧ (∀ t, t < nt → W 13 t = 0 ∨ W 13 t = 1) ∧ (∃ a, a ≤ 100 ∧ W 0 2 = nI a) ∧ (∃ w, w ≤ 9900 ∧ wkOK W np w)
/-- hiding skills of people, skills and tongues of readers as they are told -/
def wdBk (W B : S32) (np nr : Nat) : Prop := (∀ p, p < np → W 6 p = B 5 p) ∧ (∀ r, r < nr → W 14 r = B 13 r ∧ W 15 r = B 14 r)
/-! the reference's tests -/
theorem s_mMan (fu : Nat) (M : S32) (v : S64) {np : Nat} (hp : M 0 12 = nI np) (hn : np < 2 ^ 31) (x : Int32) : ((∃ p, p < np ∧ x = nI p) ∧ f_X12_isMan fu M v x = some 1) ∨ ((x < 0 ∨ nI np ≤ x) ∧ f_X12_isMan fu M v x = some 0) := by
  unfold f_X12_isMan
  rw [hp]
  rcases pk_ix x hn with h | h | ⟨j, hj, rfl⟩
  · exact Or.inr ⟨Or.inl h, by rw [if_pos h]⟩
  · refine Or.inr ⟨Or.inr h, ?_⟩
    by_cases h0 : x < 0
    · rw [if_pos h0]
    · rw [if_neg h0, if_pos h]
  · exact Or.inl ⟨⟨j, hj, rfl⟩, by rw [if_neg (nI_pos (by omega)), if_neg (nI_ge hj hn)]⟩
theorem s_cMan (fu : Nat) (B : S32) {np : Nat} (hp : B 0 1 = nI np) (hn : np ≤ 6) (x : Int32) : ((∃ p, p < np ∧ x = nI p) ∧ f_X0_isMan fu B x = some 1) ∨ ((x < 0 ∨ nI np ≤ x) ∧ f_X0_isMan fu B x = some 0) := by
  unfold f_X0_isMan
  rw [hp]
  rcases pk_ix x (n := np) (by omega) with h | h | ⟨j, hj, rfl⟩
  · exact Or.inr ⟨Or.inl h, by rw [if_pos h]⟩
  · refine Or.inr ⟨Or.inr h, ?_⟩
    by_cases h0 : x < 0
    · rw [if_pos h0]
    · rw [if_neg h0, if_pos h]
  · refine Or.inl ⟨⟨j, hj, rfl⟩, ?_⟩
    rw [if_neg (nI_pos (by omega)), if_neg (nI_ge hj (by omega)), if_neg (show ¬ (6 : Int32) ≤ nI j from nI_ge (b := 6) (by omega) (by decide))]
theorem s_mThought (fu : Nat) (M : S32) (v : S64) {nt : Nat} (hp : M 0 13 = nI nt) (hn : nt < 2 ^ 31) (x : Int32) : ((∃ p, p < nt ∧ x = nI p) ∧ f_X12_isThought fu M v x = some 1) ∨ ((x < 0 ∨ nI nt ≤ x) ∧ f_X12_isThought fu M v x = some 0) := by
  unfold f_X12_isThought
  rw [hp]
  rcases pk_ix x hn with h | h | ⟨j, hj, rfl⟩
  · exact Or.inr ⟨Or.inl h, by rw [if_pos h]⟩
  · refine Or.inr ⟨Or.inr h, ?_⟩
    by_cases h0 : x < 0
    · rw [if_pos h0]
    · rw [if_neg h0, if_pos h]
  · exact Or.inl ⟨⟨j, hj, rfl⟩, by rw [if_neg (nI_pos (by omega)), if_neg (nI_ge hj hn)]⟩
theorem s_cThought (fu : Nat) (B : S32) {nt : Nat} (hp : B 0 5 = nI nt) (hn : nt ≤ 12) (x : Int32) : ((∃ p, p < nt ∧ x = nI p) ∧ f_X0_isThought fu B x = some 1) ∨ ((x < 0 ∨ nI nt ≤ x) ∧ f_X0_isThought fu B x = some 0) := by
  unfold f_X0_isThought
  rw [hp]
  rcases pk_ix x (n := nt) (by omega) with h | h | ⟨j, hj, rfl⟩
  · exact Or.inr ⟨Or.inl h, by rw [if_pos h]⟩
  · refine Or.inr ⟨Or.inr h, ?_⟩
    by_cases h0 : x < 0
    · rw [if_pos h0]
    · rw [if_neg h0, if_pos h]
  · refine Or.inl ⟨⟨j, hj, rfl⟩, ?_⟩
    rw [if_neg (nI_pos (by omega)), if_neg (nI_ge hj (by omega)), if_neg (show ¬ (12 : Int32) ≤ nI j from nI_ge (b := 12) (by omega) (by decide))]
theorem s_mReader (fu : Nat) (M : S32) (v : S64) {nr : Nat} (hp : M 0 14 = nI nr) (hn : nr < 2 ^ 31) (x : Int32) : ((∃ p, p < nr ∧ x = nI p) ∧ f_X12_isReader fu M v x = some 1) ∨ ((x < 0 ∨ nI nr ≤ x) ∧ f_X12_isReader fu M v x = some 0) := by
  unfold f_X12_isReader
  rw [hp]
  rcases pk_ix x hn with h | h | ⟨j, hj, rfl⟩
  · exact Or.inr ⟨Or.inl h, by rw [if_pos h]⟩
  · refine Or.inr ⟨Or.inr h, ?_⟩
    by_cases h0 : x < 0
    · rw [if_pos h0]
    · rw [if_neg h0, if_pos h]
  · exact Or.inl ⟨⟨j, hj, rfl⟩, by rw [if_neg (nI_pos (by omega)), if_neg (nI_ge hj hn)]⟩
theorem s_cReader (fu : Nat) (B : S32) {nr : Nat} (hp : B 0 10 = nI nr) (hn : nr ≤ 4) (x : Int32) : ((∃ p, p < nr ∧ x = nI p) ∧ f_X0_isReader fu B x = some 1) ∨ ((x < 0 ∨ nI nr ≤ x) ∧ f_X0_isReader fu B x = some 0) := by
  unfold f_X0_isReader
  rw [hp]
  rcases pk_ix x (n := nr) (by omega) with h | h | ⟨j, hj, rfl⟩
  · exact Or.inr ⟨Or.inl h, by rw [if_pos h]⟩
  · refine Or.inr ⟨Or.inr h, ?_⟩
    by_cases h0 : x < 0
    · rw [if_pos h0]
    · rw [if_neg h0, if_pos h]
  · refine Or.inl ⟨⟨j, hj, rfl⟩, ?_⟩
    rw [if_neg (nI_pos (by omega)), if_neg (nI_ge hj (by omega)), if_neg (show ¬ (4 : Int32) ≤ nI j from nI_ge (b := 4) (by omega) (by decide))]
theorem s_no {x : Int32} {n : Nat} (hn : n < 2 ^ 31) (h : x < 0 ∨ nI n ≤ x) : ¬ ∃ p, p < n ∧ x = nI p := by
  rintro ⟨p, hp, rfl⟩
  rcases h with h | h
  · exact nI_pos (by omega) h
  · exact nI_ge hp hn h
