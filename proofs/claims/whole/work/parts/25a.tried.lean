/-! what the relation sees stays -/
def PF (M M' : S32) : Prop := ∀ r i, rl r i = true → M' r i = M r i
theorem PF.refl (M : S32) : PF M M := fun _ _ _ => rfl
theorem PF.trans {M M' M'' : S32} (h : PF M M') (h2 : PF M' M'') : PF M M'' := fun r i hs => (h2 r i hs).trans (h r i hs)
theorem PF.up {M M' : S32} (h : PF M M') {r i : Nat} (v : Int32) (hs : rl r i = false) : PF M (up2 M' r i v) := by
  intro q j hq
  rw [up2_a, if_neg]
  · exact h q j hq
  · rintro ⟨rfl, rfl⟩; rw [hs] at hq; cases hq
theorem PF.pje {M M' : S32} (h : PF M M') : pj M' = pj M := by
  funext r i
  by_cases e : rl r i = true
  · rw [pj_in e, pj_in e]; exact h r i e
  · unfold pj; rw [if_neg e, if_neg e]
theorem sc_rl {r i : Nat} (h : sc 1 r i) : rl r i = false := by
  unfold sc at h
  rcases h with ⟨rfl, rfl | rfl⟩ | ⟨rfl | rfl | rfl, h1, h2⟩ | ⟨rfl | rfl | rfl | rfl, h1, h2⟩ | ⟨rfl, rfl⟩
  · decide
  · decide
  · have : ¬ i < 12 := by omega
    simp [rl, this]
  · have : ¬ i < 12 := by omega
    simp [rl, this]
  · have : ¬ i < 12 := by omega
    simp [rl, this]
  · have : ¬ i < 6 := by omega
    simp [rl, this]
  · have : ¬ i < 6 := by omega
    simp [rl, this]
  · have : ¬ i < 6 := by omega
    simp [rl, this]
  · have : ¬ i < 6 := by omega
    simp [rl, this]
  · decide
theorem FR.pf {M M' : S32} (h : FR 1 M M') : PF M M' := by
  intro r i hr
  refine h r i (fun z => ?_)
  rw [sc_rl z] at hr
  cases hr
theorem hi12 {r i : Nat} (hr : r = 50 ∨ r = 51 ∨ r = 52) (h : 12 ≤ i) : rl r i = false := by
  have : ¬ i < 12 := by omega
  rcases hr with rfl | rfl | rfl <;> simp [rl, this]
theorem hi6 {r i : Nat} (hr : r = 53 ∨ r = 54 ∨ r = 55 ∨ r = 56 ∨ r = 57) (h : 6 ≤ i) : rl r i = false := by
  have : ¬ i < 6 := by omega
  rcases hr with rfl | rfl | rfl | rfl | rfl <;> simp [rl, this]
/-! the plain facts stay -/
theorem PL.pf {B W M M' : S32} {np nt nr : Nat} (h : PL B W M np nt nr) (e : PF M M') : PL B W M' np nt nr := by
  obtain ⟨⟨hnp, hnt, hnr⟩, ⟨b1, m1⟩, ⟨b5, m5⟩, ⟨b10, m10⟩, hbp, hbt, hbr, hb0, hwp, hwt, hwr, hw0, hbi, hwi⟩ := h
  refine ⟨⟨hnp, hnt, hnr⟩, ⟨b1, (e 0 12 (by decide)).trans m1⟩, ⟨b5, (e 0 13 (by decide)).trans m5⟩, ⟨b10, (e 0 14 (by decide)).trans m10⟩, fun p hp => ?_, fun t ht => ?_, fun r hr => ?_, ?_, fun p hp => ?_, fun t ht => ?_, fun r hr => ?_, ?_, hbi, hwi⟩
  · rw [e 23 p (rl6 (by simp) (by omega)), e 24 p (rl6 (by simp) (by omega)), e 25 p (rl6 (by simp) (by omega))]; exact hbp p hp
  · rw [e 26 t (rl12 (by simp) (by omega)), e 27 t (rl12 (by simp) (by omega)), e 28 t (rl12 (by simp) (by omega)), e 29 t (rl12 (by simp) (by omega))]; exact hbt t ht
  · rw [e 30 r (rl4 (by simp) (by omega)), e 31 r (rl4 (by simp) (by omega)), e 32 r (rl4 (by simp) (by omega))]; exact hbr r hr
  · rw [e 22 0 (by decide), e 22 1 (by decide), e 22 2 (by decide)]; exact hb0
  · rw [e 53 p (rl6 (by simp) (by omega)), e 54 p (rl6 (by simp) (by omega)), e 55 p (rl6 (by simp) (by omega)), e 56 p (rl6 (by simp) (by omega)), e 57 p (rl6 (by simp) (by omega))]; exact hwp p hp
  · rw [e 50 t (rl12 (by simp) (by omega)), e 51 t (rl12 (by simp) (by omega)), e 52 t (rl12 (by simp) (by omega))]; exact hwt t ht
  · rw [e 31 r (rl4 (by simp) (by omega)), e 32 r (rl4 (by simp) (by omega))]; exact hwr r hr
  · rw [e 58 0 (by decide), e 59 0 (by decide)]; exact hw0
theorem knW.pf {M M' : S32} (e : PF M M') : ∀ n i st, i + n ≤ 64 → knW M n i st → knW M' n i st := by
  intro n
  induction n with
  | zero => intro i st _ h; exact h
  | succ n ih =>
    intro i st hi h
    have e6 := e 36 i (rl64 (by simp) (by omega))
    have e7 := e 37 i (rl64 (by simp) (by omega))
    have e8 := e 38 i (rl64 (by simp) (by omega))
    unfold knW
    rw [e6, e7, e8]
    rcases h with ⟨a, b, c⟩ | ⟨a, b, c⟩ | ⟨a, x, s, b, c, d⟩ | ⟨a, y, x, s, b, c, d, f⟩
    · exact Or.inl ⟨a, b, ih _ _ (by omega) c⟩
    · exact Or.inr (Or.inl ⟨a, b, ih _ _ (by omega) c⟩)
    · exact Or.inr (Or.inr (Or.inl ⟨a, x, s, b, c, ih _ _ (by omega) d⟩))
    · exact Or.inr (Or.inr (Or.inr ⟨a, y, x, s, b, c, d, ih _ _ (by omega) f⟩))
theorem lwOK.pf {L M M' : S32} (h : lwOK L M) (e : PF M M') : lwOK L M' := by
  obtain ⟨n, h1, h2, h3, h4, h5⟩ := h
  refine ⟨n, h1, h2, (e 0 15 (by decide)).trans h3, fun i hi => ?_, fun j hj => ?_⟩
  · rw [e 36 i (rl64 (by simp) (by omega)), e 37 i (rl64 (by simp) (by omega))]
    exact h4 i hi
  · rw [e 33 j (rl3 (by simp) hj), e 34 j (rl3 (by simp) hj), e 35 j (rl3 (by simp) hj)]
    rcases h5 j hj with h | ⟨a, x, y, b1, b2, b3, b4, b5, b6, b7⟩
    · exact Or.inl h
    · exact Or.inr ⟨a, x, y, b1, b2, b3, b4, b5, b6, knW.pf e _ _ _ (by omega) b7⟩
theorem PF.of_pj (M : S32) : PF (pj M) M := fun _ _ h => (pj_in h).symm
/-- the state of the play, for what looks or tries -/
def NW (B L W M : S32) (np nt nr w : Nat) : Prop := PL B W M np nt nr ∧ lwOK L M ∧ wkOK W np w ∧ w ≤ 9900 ∧ (W 0 15 = 0 ∨ W 0 15 = 1)
theorem NW.pf {B L W M M' : S32} {np nt nr w : Nat} (h : NW B L W M np nt nr w) (e : PF M M') : NW B L W M' np nt nr w := ⟨h.1.pf e, h.2.1.pf e, h.2.2⟩
theorem PF.t (M : S32) : PF M (up2 M 0 2 0) := (PF.refl M).up 0 (by decide)
theorem RR_NW {k q : Nat → Nat} {U : Nat → S32} {V : Nat → S64} (hR : RR k q U V) : ∃ np nt nr w, NW (U 2) (U 17) (U 1) (up2 (U 19) 0 2 0) np nt nr w := by
  obtain ⟨np, nt, nr, ⟨hb, hbi, hlw⟩, ⟨hw, hwi, hwb, hst, hnb, hbit⟩, hrest⟩ := hR
  obtain ⟨w, h1, h2⟩ := hwi.2.2.2.2
  exact ⟨np, nt, nr, w, RX_PL hb hbi hw hwi hwb hst, (hlw.pf (PF.of_pj _)).pf (PF.t _), h2, h1, hbit.1⟩
theorem RR_bit {k q : Nat → Nat} {U : Nat → S32} {V : Nat → S64} (hR : RR k q U V) : U 7 0 15 = 0 ∨ U 7 0 15 = 1 := by
  obtain ⟨np, nt, nr, -, ⟨-, -, -, -, -, hbit⟩, -⟩ := hR
  exact hbit.2
theorem RR_nb {k q : Nat → Nat} {U : Nat → S32} {V : Nat → S64} (hR : RR k q U V) : nbOK (U 1) (V 19 0 59) := by
  obtain ⟨np, nt, nr, -, ⟨-, -, -, -, hnb, hbit⟩, -⟩ := hR
  exact hnb
/-- behind what is tried -/
theorem RR_T {k q : Nat → Nat} {U : Nat → S32} {V : Nat → S64} (hR : RR k q U V) {M' W3 : S32} {v' : S64} (hM : PF (U 19) M') (hb : W3 0 15 = 0 ∨ W3 0 15 = 1) (h59 : v' 0 59 = V 19 0 59) (h80 : v' 0 80 = V 19 0 80) (z : Nat) (a c : S64) : RR k (va_up q 1 z) (va_up (va_up U 7 W3) 19 M') (va_up (va_up (va_up V 17 a) 8 c) 19 v') := by
  show RX (k 0) (q 0) (U 0) (U 1) (U 2) (U 4) (U 5) (U 9) (U 12) (U 17) (U 18) (pj M') (v' 0 59) (v' 0 80) W3
  rw [hM.pje, h59, h80]
  obtain ⟨np, nt, nr, h1, ⟨g1, g2, g3, g4, g5, g6⟩, h3⟩ := hR
  exact ⟨np, nt, nr, h1, ⟨g1, g2, g3, g4, g5, g6.1, hb⟩, h3⟩
theorem RR_L {k q : Nat → Nat} {U : Nat → S32} {V : Nat → S64} (hR : RR k q U V) {M' : S32} {v' : S64} (hM : PF (U 19) M') (h59 : v' 0 59 = V 19 0 59) (h80 : v' 0 80 = V 19 0 80) (a c : S64) : RR k q (va_up U 19 M') (va_up (va_up (va_up V 17 a) 11 c) 19 v') ∧ RR k q (va_up U 19 M') (va_up (va_up (va_up V 11 a) 17 c) 19 v') := by
  constructor
  · show RX (k 0) (q 0) (U 0) (U 1) (U 2) (U 4) (U 5) (U 9) (U 12) (U 17) (U 18) (pj M') (v' 0 59) (v' 0 80) (U 7)
    rw [hM.pje, h59, h80]
    exact hR
  · show RX (k 0) (q 0) (U 0) (U 1) (U 2) (U 4) (U 5) (U 9) (U 12) (U 17) (U 18) (pj M') (v' 0 59) (v' 0 80) (U 7)
    rw [hM.pje, h59, h80]
    exact hR
/-! plain, laid, copied -/
def pT (M : S32) : S32 := up2 (up2 (up2 (up2 (up2 (up2 (up2 (up2 (up2 M 0 61 0) 0 62 0) 0 63 0) 0 64 0) 0 65 0) 0 66 (-1)) 0 67 (-1)) 0 68 (-1)) 0 69 0
theorem pT_f (fu : Nat) (v : S64) (M : S32) : f_X12_plainTried fu v M = some (pT M) := rfl
theorem pT_pf (M : S32) : PF M (pT M) := by
  unfold pT
  exact (((((((((PF.refl M).up _ (by decide)).up _ (by decide)).up _ (by decide)).up _ (by decide)).up _ (by decide)).up _ (by decide)).up _ (by decide)).up _ (by decide)).up _ (by decide)
theorem pT_n (M : S32) {r : Nat} (h : r ≠ 0) : pT M r = M r := by
  unfold pT
  simp only [up2_n _ _ _ h]
theorem pT_v (M : S32) : pT M 0 61 = 0 ∧ pT M 0 62 = 0 ∧ pT M 0 63 = 0 ∧ pT M 0 64 = 0 ∧ pT M 0 65 = 0 ∧ pT M 0 66 = -1 ∧ pT M 0 67 = -1 ∧ pT M 0 68 = -1 ∧ pT M 0 69 = 0 := by
  unfold pT
  simp [up2_a]
theorem cp_spec (fu : Nat) (W T : S32) : ∃ Wc, f_X10_copy fu W T = some Wc ∧ (∀ p, p < 6 → Wc 5 p = W 5 p ∧ Wc 6 p = W 6 p ∧ Wc 7 p = W 7 p ∧ Wc 8 p = W 8 p ∧ Wc 9 p = W 9 p ∧ Wc 10 p = W 10 p) ∧ (∀ t, t < 12 → Wc 11 t = W 11 t ∧ Wc 12 t = W 12 t ∧ Wc 13 t = W 13 t) ∧ (∀ r, r < 4 → Wc 14 r = W 14 r ∧ Wc 15 r = W 15 r) ∧ Wc 0 1 = W 0 1 ∧ Wc 0 2 = W 0 2 ∧ Wc 0 3 = W 0 3 ∧ Wc 0 15 = T 0 15 := by
  refine ⟨_, rfl, fun p hp => ?_, fun t ht => ?_, fun r hr => ?_, rfl, rfl, rfl, rfl⟩
  · have c : ∀ f g : Nat → Int32, va_cpy f g 0 0 6 p = f p := fun f g => by rw [pk_cpy_in (by omega) (by omega)]; congr 1; omega
    exact ⟨c _ _, c _ _, c _ _, c _ _, c _ _, c _ _⟩
  · have c : ∀ f g : Nat → Int32, va_cpy f g 0 0 12 t = f t := fun f g => by rw [pk_cpy_in (by omega) (by omega)]; congr 1; omega
    exact ⟨c _ _, c _ _, c _ _⟩
  · have c : ∀ f g : Nat → Int32, va_cpy f g 0 0 4 r = f r := fun f g => by rw [pk_cpy_in (by omega) (by omega)]; congr 1; omega
    exact ⟨c _ _, c _ _⟩
