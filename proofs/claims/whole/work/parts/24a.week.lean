/-! a world of the class beside one of the reference: what a week needs -/
def BKM (B M : S32) (np nt nr : Nat) : Prop :=
  (np ≤ 6 ∧ nt ≤ 12 ∧ nr ≤ 4) ∧ (B 0 1 = nI np ∧ M 0 12 = nI np) ∧ (B 0 5 = nI nt ∧ M 0 13 = nI nt) ∧ (B 0 10 = nI nr ∧ M 0 14 = nI nr) ∧
  (∀ t, t < nt → B 7 t = M 26 t ∧ B 8 t = M 27 t ∧ B 9 t = M 28 t ∧ B 10 t = M 29 t) ∧ bkIn B np nt nr
/-- what is tried otherwise: hiding skills, skills, tongues -/
def flK (W M : S32) (np nr : Nat) : Prop :=
  (∀ p, p < np → W 6 p = (if M 0 62 = 0 then M 25 p else 0) ∧ ∃ a, a ≤ 9 ∧ W 6 p = nI a) ∧
  (∀ r, r < nr → W 14 r = (if M 0 64 = 0 then (if nI r = M 0 68 then M 0 69 else M 31 r) else 9) ∧ ((M 0 63 = 0 ∧ W 15 r = M 32 r) ∨ (M 0 63 = 1 ∧ W 15 r = 15)))
def bar (M : S32) (t : Nat) : Prop := M 26 t = M 0 66 ∨ nI t = M 0 67
def thR (W M : S32) (b nt x : Nat) : Prop := ∀ t, t < nt →
  ((W 11 t = M 50 (12 * b + t) ∧ (W 11 t = 0 → ¬ bar M t)) ∨ (W 11 t = 2 ∧ M 50 (12 * b + t) = 0 ∧ bar M t)) ∧ W 12 t = M 51 (12 * b + t) ∧ (x < 100 → t ≠ x → W 13 t = M 52 (12 * b + t))
def ppR (W M : S32) (b : Nat) (S : Nat → Prop) : Prop := ∀ p, S p → W 5 p = M 53 (6 * b + p) ∧ W 7 p = M 54 (6 * b + p) ∧ W 8 p = M 55 (6 * b + p) ∧ W 9 p = M 56 (6 * b + p) ∧ W 10 p = M 57 (6 * b + p)
def inR (W : S32) (np nt nr : Nat) : Prop := wdPp W np nr ∧ wdTt W np nt ∧ (∀ t, t < nt → W 13 t = 0 ∨ W 13 t = 1) ∧ (∃ a, a ≤ 100 ∧ W 0 2 = nI a) ∧ (W 0 15 = 0 ∨ W 0 15 = 1)
def WR (B L W M : S32) (b np nt nr x : Nat) (S : Nat → Prop) : Prop :=
  (b ≤ 1 ∧ BKM B M np nt nr ∧ lwOK L M ∧ flK W M np nr) ∧ (thR W M b nt x ∧ ppR W M b S ∧ W 0 1 = M 59 b) ∧ inR W np nt nr
/-- what a week of world b may change of the reference -/
def sc (b r i : Nat) : Prop := (r = 0 ∧ (i = 48 ∨ i = 60)) ∨ ((r = 50 ∨ r = 51 ∨ r = 52) ∧ 12 * b ≤ i ∧ i < 12 * b + 12) ∨ ((r = 53 ∨ r = 54 ∨ r = 55 ∨ r = 56) ∧ 6 * b ≤ i ∧ i < 6 * b + 6) ∨ (r = 59 ∧ i = b)
def FR (b : Nat) (M M' : S32) : Prop := ∀ r i, ¬ sc b r i → M' r i = M r i
theorem FR.refl (b : Nat) (M : S32) : FR b M M := fun _ _ _ => rfl
theorem FR.trans {b : Nat} {M M' M'' : S32} (h : FR b M M') (h2 : FR b M' M'') : FR b M M'' := fun r i hs => (h2 r i hs).trans (h r i hs)
theorem FR.up {b : Nat} {M M' : S32} (h : FR b M M') {r i : Nat} (v : Int32) (hs : sc b r i) : FR b M (up2 M' r i v) := by
  intro q j hq
  rw [up2_a, if_neg]
  · exact h q j hq
  · rintro ⟨rfl, rfl⟩; exact hq hs
theorem FR.u48 {b : Nat} {M M' : S32} (h : FR b M M') (v : Int32) : FR b M (up2 M' 0 48 v) := h.up v (by unfold sc; omega)
theorem FR.u60 {b : Nat} {M M' : S32} (h : FR b M M') (v : Int32) : FR b M (up2 M' 0 60 v) := h.up v (by unfold sc; omega)
/-- rows and fields that a week leaves -/
def EQ0 (M M' : S32) : Prop := (∀ r, r ≠ 0 → r < 50 → M' r = M r) ∧ (∀ i, i ≠ 48 → i ≠ 60 → M' 0 i = M 0 i)
theorem EQ0.refl (M : S32) : EQ0 M M := ⟨fun _ _ _ => rfl, fun _ _ _ => rfl⟩
theorem EQ0.up {M M' : S32} (h : EQ0 M M') {r : Nat} (i : Nat) (v : Int32) (hr : 50 ≤ r) : EQ0 M (up2 M' r i v) := by
  refine ⟨fun q h0 hq => ?_, fun j h1 h2 => ?_⟩
  · rw [up2_n _ _ _ (by omega)]; exact h.1 q h0 hq
  · rw [up2_n _ _ _ (by omega)]; exact h.2 j h1 h2
theorem EQ0.u0 {M M' : S32} (h : EQ0 M M') {i : Nat} (v : Int32) (hi : i = 48 ∨ i = 60) : EQ0 M (up2 M' 0 i v) := by
  refine ⟨fun q h0 hq => ?_, fun j h1 h2 => ?_⟩
  · rw [up2_n _ _ _ h0]; exact h.1 q h0 hq
  · rw [up2_i _ _ _ (by omega)]; exact h.2 j h1 h2
theorem BKM.c {B M M' : S32} {np nt nr : Nat} (h : BKM B M np nt nr) (e : EQ0 M M') : BKM B M' np nt nr := by
  unfold BKM
  rw [e.2 12 (by decide) (by decide), e.2 13 (by decide) (by decide), e.2 14 (by decide) (by decide), e.1 26 (by decide) (by decide), e.1 27 (by decide) (by decide), e.1 28 (by decide) (by decide), e.1 29 (by decide) (by decide)]
  exact h
theorem flK.c {W M M' : S32} {np nr : Nat} (h : flK W M np nr) (e : EQ0 M M') : flK W M' np nr := by
  unfold flK
  rw [e.2 62 (by decide) (by decide), e.2 63 (by decide) (by decide), e.2 64 (by decide) (by decide), e.2 68 (by decide) (by decide), e.2 69 (by decide) (by decide), e.1 25 (by decide) (by decide), e.1 31 (by decide) (by decide), e.1 32 (by decide) (by decide)]
  exact h
theorem bar.c {M M' : S32} {t : Nat} (e : EQ0 M M') : bar M' t ↔ bar M t := by
  unfold bar
  rw [e.2 66 (by decide) (by decide), e.2 67 (by decide) (by decide), e.1 26 (by decide) (by decide)]
theorem lwOK.e {L M M' : S32} (h : lwOK L M) (e : EQ0 M M') : lwOK L M' := h.c (fun r h1 h2 => e.1 r (by omega) (by omega)) (e.2 15 (by decide) (by decide))
theorem WR.u0 {B L W M : S32} {b np nt nr x : Nat} {S : Nat → Prop} (h : WR B L W M b np nt nr x S) {i : Nat} (v : Int32) (hi : i = 48 ∨ i = 60) : WR B L W (up2 M 0 i v) b np nt nr x S := by
  have e : EQ0 M (up2 M 0 i v) := (EQ0.refl M).u0 v hi
  obtain ⟨⟨h1, h2, h3, h4⟩, ⟨h5, h6, h7⟩, h8⟩ := h
  refine ⟨⟨h1, h2.c e, h3.e e, h4.c e⟩, ⟨fun t ht => ?_, fun p hp => ?_, ?_⟩, h8⟩
  · rw [bar.c e]
    simp only [up2_n M i v (show (50 : Nat) ≠ 0 by decide), up2_n M i v (show (51 : Nat) ≠ 0 by decide), up2_n M i v (show (52 : Nat) ≠ 0 by decide)]
    exact h5 t ht
  · simp only [up2_n M i v (show (53 : Nat) ≠ 0 by decide), up2_n M i v (show (54 : Nat) ≠ 0 by decide), up2_n M i v (show (55 : Nat) ≠ 0 by decide), up2_n M i v (show (56 : Nat) ≠ 0 by decide), up2_n M i v (show (57 : Nat) ≠ 0 by decide)]
    exact h6 p hp
  · simp only [up2_n M i v (show (59 : Nat) ≠ 0 by decide)]
    exact h7
/-- a thought is had or gone -/
theorem WR.th {B L W M : S32} {b np nt nr x : Nat} {S : Nat → Prop} (h : WR B L W M b np nt nr x S) {t : Nat} (ht : t < nt) {s y : Int32} (hs : (s = 1 ∧ ∃ a, a < np ∧ y = nI a) ∨ (s = 2 ∧ y = -1)) : WR B L (up2 (up2 W 11 t s) 12 t y) (up2 (up2 M 50 (12 * b + t) s) 51 (12 * b + t) y) b np nt nr x S := by
  have e : EQ0 M (up2 (up2 M 50 (12 * b + t) s) 51 (12 * b + t) y) := ((EQ0.refl M).up _ _ (by decide)).up _ _ (by decide)
  obtain ⟨⟨h1, h2, h3, h4⟩, ⟨h5, h6, h7⟩, h8, h9, h10, h11⟩ := h
  refine ⟨⟨h1, h2.c e, h3.e e, flK.c ?_ e⟩, ⟨fun u hu => ?_, fun p hp => ?_, ?_⟩, fun p hp => ?_, fun u hu => ?_, fun u hu => ?_, ?_⟩
  · exact h4
  · rw [bar.c e]
    obtain ⟨g1, g2, g3⟩ := h5 u hu
    simp only [up2_a]
    by_cases hut : u = t
    · subst hut
      simp only [and_self, and_true, if_true, show ¬ (11 : Nat) = 12 by decide, show ¬ (50 : Nat) = 51 by decide, show ¬ (13 : Nat) = 12 by decide, show ¬ (13 : Nat) = 11 by decide, show ¬ (52 : Nat) = 51 by decide, show ¬ (52 : Nat) = 50 by decide, false_and, if_false]
      refine ⟨Or.inl ⟨trivial, fun z => ?_⟩, trivial, g3⟩
      rcases hs with ⟨e1, -⟩ | ⟨e1, -⟩
      · rw [e1] at z; exact absurd z (by decide)
      · rw [e1] at z; exact absurd z (by decide)
    · simp only [hut, show ¬ 12 * b + u = 12 * b + t by omega, and_false, if_false]
      exact ⟨g1, g2, g3⟩
  · simp only [up2_a]
    exact h6 p hp
  · simp only [up2_a]
    exact h7
  · simp only [up2_a]
    exact h8 p hp
  · simp only [up2_a]
    by_cases hut : u = t
    · subst hut
      simp only [and_self, and_true, if_true, show ¬ (11 : Nat) = 12 by decide, if_false, false_and]
      rcases hs with ⟨e1, e2⟩ | ⟨e1, e2⟩
      · exact Or.inl ⟨e1, e2⟩
      · exact Or.inr ⟨Or.inr e1, e2⟩
    · simp only [hut, and_false, if_false]
      exact h9 u hu
  · simp only [up2_a]
    exact h10 u hu
  · simp only [up2_a]
    exact h11
/-- a thought is read -/
theorem WR.rd {B L W M : S32} {b np nt nr x : Nat} {S : Nat → Prop} (h : WR B L W M b np nt nr x S) {t : Nat} (ht : t < nt) : WR B L (up2 W 13 t 1) (up2 M 52 (12 * b + t) 1) b np nt nr x S := by
  have e : EQ0 M (up2 M 52 (12 * b + t) 1) := (EQ0.refl M).up _ _ (by decide)
  obtain ⟨⟨h1, h2, h3, h4⟩, ⟨h5, h6, h7⟩, h8, h9, h10, h11⟩ := h
  refine ⟨⟨h1, h2.c e, h3.e e, flK.c ?_ e⟩, ⟨fun u hu => ?_, fun p hp => ?_, ?_⟩, fun p hp => ?_, fun u hu => ?_, fun u hu => ?_, ?_⟩
  · exact h4
  · rw [bar.c e]
    obtain ⟨g1, g2, g3⟩ := h5 u hu
    simp only [up2_a]
    by_cases hut : u = t
    · subst hut
      simp only [and_self, if_true]
      exact ⟨g1, g2, fun _ _ => trivial⟩
    · simp only [hut, show ¬ 12 * b + u = 12 * b + t by omega, and_false, if_false]
      exact ⟨g1, g2, g3⟩
  · simp only [up2_a]
    exact h6 p hp
  · simp only [up2_a]
    exact h7
  · simp only [up2_a]
    exact h8 p hp
  · simp only [up2_a]
    exact h9 u hu
  · simp only [up2_a]
    by_cases hut : u = t
    · subst hut
      simp only [and_self, if_true]
      exact Or.inr trivial
    · simp only [hut, and_false, if_false]
      exact h10 u hu
  · simp only [up2_a]
    exact h11
/-- a door is paid for -/
theorem WR.pp {B L W M : S32} {b np nt nr x : Nat} {S : Nat → Prop} (h : WR B L W M b np nt nr x S) {p : Nat} (hp : p < np) {y5 y7 y8 y9 : Int32} (h5 : ∃ a, a ≤ 999 ∧ y5 = nI a) (h9 : ∃ a, a ≤ 9 ∧ y9 = nI a) :
    WR B L (up2 (up2 (up2 (up2 W 5 p y5) 7 p y7) 8 p y8) 9 p y9) (up2 (up2 (up2 (up2 M 53 (6 * b + p) y5) 54 (6 * b + p) y7) 55 (6 * b + p) y8) 56 (6 * b + p) y9) b np nt nr x S := by
  have e : EQ0 M (up2 (up2 (up2 (up2 M 53 (6 * b + p) y5) 54 (6 * b + p) y7) 55 (6 * b + p) y8) 56 (6 * b + p) y9) := ((((EQ0.refl M).up _ _ (by decide)).up _ _ (by decide)).up _ _ (by decide)).up _ _ (by decide)
  obtain ⟨⟨g1, g2, g3, g4⟩, ⟨g5, g6, g7⟩, g8, g9, g10, g11⟩ := h
  refine ⟨⟨g1, g2.c e, g3.e e, flK.c ?_ e⟩, ⟨fun u hu => ?_, fun q hq => ?_, ?_⟩, fun q hq => ?_, fun u hu => ?_, fun u hu => ?_, ?_⟩
  · exact g4
  · rw [bar.c e]
    simp only [up2_a]
    exact g5 u hu
  · simp only [up2_a]
    by_cases hut : q = p
    · subst hut
      obtain ⟨-, -, -, -, k5⟩ := g6 q hq
      simp
      exact k5
    · simp only [hut, show ¬ 6 * b + q = 6 * b + p by omega, and_false, if_false]
      exact g6 q hq
  · simp only [up2_a]
    exact g7
  · simp only [up2_a]
    by_cases hut : q = p
    · subst hut
      obtain ⟨-, -, k5⟩ := g8 q hq
      simp
      exact ⟨h5, h9, k5⟩
    · simp only [hut, and_false, if_false]
      exact g8 q hq
  · simp only [up2_a]
    exact g9 u hu
  · simp only [up2_a]
    exact g10 u hu
  · simp only [up2_a]
    exact g11
/-- a field of the class's own -/
theorem WR.f {B L W M : S32} {b np nt nr x : Nat} {S : Nat → Prop} (h : WR B L W M b np nt nr x S) {i : Nat} {y : Int32} (hi : i = 3 ∨ (i = 15 ∧ (y = 0 ∨ y = 1))) : WR B L (up2 W 0 i y) M b np nt nr x S := by
  obtain ⟨⟨h1, h2, h3, h4⟩, ⟨h5, h6, h7⟩, h8, h9, h10, h11, h12⟩ := h
  refine ⟨⟨h1, h2, h3, ?_⟩, ⟨fun u hu => ?_, fun p hp => ?_, ?_⟩, fun p hp => ?_, fun u hu => ?_, fun u hu => ?_, ?_, ?_⟩
  · exact h4
  · exact h5 u hu
  · exact h6 p hp
  · rw [up2_i _ _ _ (by omega)]
    exact h7
  · exact h8 p hp
  · exact h9 u hu
  · exact h10 u hu
  · rw [up2_i _ _ _ (by omega)]
    exact h11
  · rcases hi with rfl | ⟨rfl, hy⟩
    · rw [up2_i _ _ _ (by omega)]; exact h12
    · rw [up2_e]; exact hy
/-- the rate is nothing that it speaks of -/
theorem WR.u58 {B L W M : S32} {b np nt nr x : Nat} {S : Nat → Prop} (h : WR B L W M b np nt nr x S) (i : Nat) (y : Int32) : WR B L W (up2 M 58 i y) b np nt nr x S := by
  have e : EQ0 M (up2 M 58 i y) := (EQ0.refl M).up _ _ (by decide)
  obtain ⟨⟨h1, h2, h3, h4⟩, ⟨h5, h6, h7⟩, h8⟩ := h
  refine ⟨⟨h1, h2.c e, h3.e e, h4.c e⟩, ⟨fun t ht => ?_, fun p hp => ?_, ?_⟩, h8⟩
  · rw [bar.c e]
    exact h5 t ht
  · exact h6 p hp
  · exact h7
