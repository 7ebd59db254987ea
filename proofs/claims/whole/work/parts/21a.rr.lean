/-! the relation of the two states -/
def tpOK (P M : S32) : Prop := ∃ n, n ≤ 700 ∧ P 0 1 = nI n ∧ M 0 1 = nI n ∧ ∀ j, j < n → ∃ a, a ≤ 255 ∧ M 1 j = nI a ∧ P 1 j = (nI a).toInt8.toInt32
def nbOK (W : S32) (dr : Int64) : Prop := ∃ n, n < 2 ^ 31 ∧ W 0 3 = nI n ∧ dr = lN n
def fdOK (F M : S32) (nt : Nat) : Prop := ∃ n, n ≤ 24 ∧ F 0 5 = nI n ∧ M 0 71 = nI n ∧ F 0 6 = M 0 72 ∧ (F 0 6 = -1 ∨ ∃ a, a ≤ n ∧ F 0 6 = nI a) ∧
  ∀ i, i < n → (∃ g, g < i ∧ F 4 i = nI g ∧ M 74 (3 * i) = -1 ∧ M 74 (3 * i + 1) = nI g) ∨
    (F 4 i = -1 ∧ (∃ w, 1 ≤ w ∧ w ≤ 40 ∧ F 1 i = nI w ∧ M 74 (3 * i) = nI w) ∧ (∃ t, t < nt ∧ F 2 i = nI t ∧ M 74 (3 * i + 1) = nI t) ∧ (F 3 i = 0 ∨ F 3 i = 1) ∧ M 74 (3 * i + 2) = F 3 i)
/-- an image of the class's world in the reference's rows R1 (what can be undone, from place o on) -/
def snOK (W M : S32) (r o np nt : Nat) : Prop :=
  (∀ t, t < nt → W 12 t = M r (o + t)) ∧ (∀ p, p < np → W 5 p = M r (o + 12 + p) ∧ W 9 p = M r (o + 18 + p) ∧ W 10 p = M r (o + 24 + p)) ∧ W 0 2 = M r (o + 30)
def imOK (kB q0 : Nat) (T W2 B M : S32) (idr : Int64) (np nt nr : Nat) : Prop := T 0 10 = M 0 77 ∧ (T 0 10 = 0 ∨ (T 0 10 = 1 ∧ q0 = kB ∧
  snOK W2 M 79 0 np nt ∧ (∀ t, t < nt → W2 11 t = M 80 t ∧ W2 13 t = M 80 (12 + t)) ∧ (∀ p, p < np → W2 7 p = M 80 (24 + p) ∧ W2 8 p = M 80 (30 + p)) ∧ W2 0 1 = M 80 36 ∧ nbOK W2 idr ∧ wdIn W2 np nt nr ∧ wdBk W2 B np nr))
/-- the world before the deed i -/
def unD (D B W : S32) (i : Nat) : S32 :=
  if D 1 i = 0 then up2 W 12 (D 2 i).toNatClampNeg (D 3 i)
  else if D 1 i = 1 then up2 (up2 W 9 (D 2 i).toNatClampNeg (W 9 (D 2 i).toNatClampNeg - D 3 i)) 5 (D 2 i).toNatClampNeg (W 5 (D 2 i).toNatClampNeg + D 3 i * B 0 15)
  else if D 1 i = 2 then up2 W 10 (D 2 i).toNatClampNeg (D 3 i)
  else up2 W 0 2 (D 3 i)
/-- a deed that may stand there -/
def deedOK (D : S32) (i np nt : Nat) : Prop :=
  (D 1 i = 0 ∧ ∃ t, t < nt ∧ D 2 i = nI t) ∨ (D 1 i = 1 ∧ ∃ p, p < np ∧ D 2 i = nI p) ∨ (D 1 i = 2 ∧ ∃ p, p < np ∧ D 2 i = nI p) ∨ D 1 i = 3
/-- n deeds lie behind the world W, and the reference's rows have the world ahead of each -/
def udN (D B M : S32) (np nt nr : Nat) : Nat → S32 → Prop
  | 0, _ => True
  | n + 1, W => deedOK D n np nt ∧ snOK (unD D B W n) M 77 (31 * n) np nt ∧ wdIn (unD D B W n) np nt nr ∧ udN D B M np nt nr n (unD D B W n)
def udOK (D W B M : S32) (np nt nr : Nat) : Prop := ∃ n, n ≤ 20 ∧ D 0 3 = nI n ∧ M 0 75 = nI n ∧ udN D B M np nt nr n W
/-- the kinds of knots: the class's out of the reference's -/
def knK (x : Int32) : Int32 := if x = 2 then 4 else if x = 4 then 2 else x
/-- knots from a to b, with the rows of those that wait for a sign (the last first): what each joins -/
def knW (M : S32) : Nat → Nat → List Nat → Prop
  | 0, i, st => st = [i - 1]
  | n + 1, i, st =>
    (M 36 i = 0 ∧ (∃ a, a ≤ 9999 ∧ M 37 i = nI a) ∧ knW M n (i + 1) (i :: st)) ∨
    (M 36 i = 1 ∧ (∃ a, a < 7 ∧ M 37 i = nI a) ∧ knW M n (i + 1) (i :: st)) ∨
    (M 36 i = 2 ∧ ∃ x st', st = x :: st' ∧ M 37 i = nI x ∧ knW M n (i + 1) (i :: st')) ∨
    ((∃ a, 3 ≤ a ∧ a ≤ 14 ∧ M 36 i = nI a) ∧ ∃ y x st', st = y :: x :: st' ∧ M 37 i = nI x ∧ M 38 i = nI y ∧ knW M n (i + 1) (i :: st'))
def lwOK (L M : S32) : Prop := ∃ n, n ≤ 64 ∧ L 0 5 = nI n ∧ M 0 15 = nI n ∧
  (∀ i, i < n → L 1 i = knK (M 36 i) ∧ (M 36 i = 0 ∨ M 36 i = 1 → L 2 i = M 37 i)) ∧
  ∀ j, j < 3 → (L 3 j = -1 ∧ M 33 j = 0) ∨ (M 33 j = 1 ∧ ∃ a b, a < b ∧ b ≤ n ∧ L 3 j = nI a ∧ L 4 j = nI b ∧ M 34 j = nI a ∧ M 35 j = nI b ∧ knW M (b - a) a [])
/-- whether the rate was asked for: a truth value -/
def bitOK (W W3 : S32) : Prop := (W 0 15 = 0 ∨ W 0 15 = 1) ∧ (W3 0 15 = 0 ∨ W3 0 15 = 1)
def RX (kB q0 : Nat) (T W B F D W2 Z L P M : S32) (dr idr : Int64) (W3 : S32) : Prop := ∃ np nt nr : Nat,
  (bkOK B M np nt nr ∧ bkIn B np nt nr ∧ lwOK L M) ∧ (wdOK W M 0 np nt ∧ wdIn W np nt nr ∧ wdBk W B np nr ∧ (∀ t, t < nt → W 11 t = M 50 t) ∧ nbOK W dr ∧ bitOK W W3) ∧
  (tpOK P M ∧ (Z 0 2 = M 0 4 ∧ Z 0 3 = M 0 5) ∧ (∀ j, j < 105 → M 4 j = wd_X12_104 j)) ∧ fdOK F M nt ∧ imOK kB q0 T W2 B M idr np nt nr ∧ udOK D W B M np nt nr
def RR : RRt := fun k q U V => RX (k 0) (q 0) (U 0) (U 1) (U 2) (U 4) (U 5) (U 9) (U 12) (U 17) (U 18) (pj (U 19)) (V 19 0 59) (V 19 0 80) (U 7)
/-- the reference's own row behind a call: nothing that counts has changed -/
theorem pj_thrown (M : S32) (x : Int32) : pj (up2 M 0 2 x) = pj M := pj_up x (by decide)
theorem RR_M {k q : Nat → Nat} {U : Nat → S32} {V : Nat → S64} {M' : S32} (h : RR k q U V) (e : pj M' = pj (U 19)) : RR k q (va_up U 19 M') V := by
  show RX _ _ _ _ _ _ _ _ _ _ _ (pj M') _ _ _
  rw [e]
  exact h
theorem RR_t {k q : Nat → Nat} {U : Nat → S32} {V : Nat → S64} (h : RR k q U V) : RR k q (va_up U 19 (up2 (U 19) 0 2 0)) V := RR_M h (pj_thrown _ _)
/-- what a call of both that changes nothing else needs -/
theorem t_man (fu : Nat) (B M : S32) (v : S64) {np : Nat} (h1 : B 0 1 = nI np) (h2 : M 0 12 = nI np) (hn : np ≤ 6) (x : Int32) :
    (∃ p, p < np ∧ x = nI p ∧ f_X0_isMan fu B x = some 1 ∧ f_X12_isMan fu M v x = some 1) ∨ (f_X0_isMan fu B x = some 0 ∧ f_X12_isMan fu M v x = some 0) := by
  rcases s_cMan fu B h1 hn x with ⟨⟨p, hp, rfl⟩, e1⟩ | ⟨hx, e1⟩
  · rcases s_mMan fu M v h2 (by omega) (nI p) with ⟨-, e2⟩ | ⟨hx, -⟩
    · exact Or.inl ⟨p, hp, rfl, e1, e2⟩
    · exact absurd ⟨p, hp, rfl⟩ (s_no (by omega) hx)
  · rcases s_mMan fu M v h2 (by omega) x with ⟨hp, -⟩ | ⟨-, e2⟩
    · exact absurd hp (s_no (by omega) hx)
    · exact Or.inr ⟨e1, e2⟩
theorem t_thought (fu : Nat) (B M : S32) (v : S64) {nt : Nat} (h1 : B 0 5 = nI nt) (h2 : M 0 13 = nI nt) (hn : nt ≤ 12) (x : Int32) :
    (∃ p, p < nt ∧ x = nI p ∧ f_X0_isThought fu B x = some 1 ∧ f_X12_isThought fu M v x = some 1) ∨ (f_X0_isThought fu B x = some 0 ∧ f_X12_isThought fu M v x = some 0) := by
  rcases s_cThought fu B h1 hn x with ⟨⟨p, hp, rfl⟩, e1⟩ | ⟨hx, e1⟩
  · rcases s_mThought fu M v h2 (by omega) (nI p) with ⟨-, e2⟩ | ⟨hx, -⟩
    · exact Or.inl ⟨p, hp, rfl, e1, e2⟩
    · exact absurd ⟨p, hp, rfl⟩ (s_no (by omega) hx)
  · rcases s_mThought fu M v h2 (by omega) x with ⟨hp, -⟩ | ⟨-, e2⟩
    · exact absurd hp (s_no (by omega) hx)
    · exact Or.inr ⟨e1, e2⟩
theorem t_reader (fu : Nat) (B M : S32) (v : S64) {nr : Nat} (h1 : B 0 10 = nI nr) (h2 : M 0 14 = nI nr) (hn : nr ≤ 4) (x : Int32) :
    (∃ p, p < nr ∧ x = nI p ∧ f_X0_isReader fu B x = some 1 ∧ f_X12_isReader fu M v x = some 1) ∨ (f_X0_isReader fu B x = some 0 ∧ f_X12_isReader fu M v x = some 0) := by
  rcases s_cReader fu B h1 hn x with ⟨⟨p, hp, rfl⟩, e1⟩ | ⟨hx, e1⟩
  · rcases s_mReader fu M v h2 (by omega) (nI p) with ⟨-, e2⟩ | ⟨hx, -⟩
    · exact Or.inl ⟨p, hp, rfl, e1, e2⟩
    · exact absurd ⟨p, hp, rfl⟩ (s_no (by omega) hx)
  · rcases s_mReader fu M v h2 (by omega) x with ⟨hp, -⟩ | ⟨-, e2⟩
    · exact absurd hp (s_no (by omega) hx)
    · exact Or.inr ⟨e1, e2⟩
/-- fields and rows out of the projection -/
theorem pf {M : S32} {i : Nat} (h : rl 0 i = true) : pj M 0 i = M 0 i := pj_in h
theorem up_t (M : S32) {i : Nat} (h : i ≠ 2) : (up2 M 0 2 0) 0 i = M 0 i := up2_i _ _ _ h
theorem up_r (M : S32) {r i : Nat} (h : r ≠ 0) : (up2 M 0 2 0) r i = M r i := by rw [up2_n _ _ _ h]
theorem rl6 {r i : Nat} (hr : r = 23 ∨ r = 24 ∨ r = 25 ∨ r = 53 ∨ r = 54 ∨ r = 55 ∨ r = 56 ∨ r = 57) (h : i < 6) : rl r i = true := by
  rcases hr with rfl | rfl | rfl | rfl | rfl | rfl | rfl | rfl <;> simp [rl, h]
theorem rl12 {r i : Nat} (hr : r = 26 ∨ r = 27 ∨ r = 28 ∨ r = 29 ∨ r = 50 ∨ r = 51 ∨ r = 52) (h : i < 12) : rl r i = true := by
  rcases hr with rfl | rfl | rfl | rfl | rfl | rfl | rfl <;> simp [rl, h]
theorem rl4 {r i : Nat} (hr : r = 30 ∨ r = 31 ∨ r = 32) (h : i < 4) : rl r i = true := by
  rcases hr with rfl | rfl | rfl <;> simp [rl, h]
theorem rl3 {r i : Nat} (hr : r = 22 ∨ r = 33 ∨ r = 34 ∨ r = 35) (h : i < 3) : rl r i = true := by
  rcases hr with rfl | rfl | rfl | rfl <;> simp [rl, h]
theorem rl64 {r i : Nat} (hr : r = 36 ∨ r = 37 ∨ r = 38) (h : i < 64) : rl r i = true := by
  rcases hr with rfl | rfl | rfl <;> simp [rl, h]
