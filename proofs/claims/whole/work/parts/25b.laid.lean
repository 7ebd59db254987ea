/-! the tried world is laid -/
def layI (M M' : S32) (t : Nat) : Prop := PF M M' ∧ (∀ r, r ≠ 50 → r ≠ 51 → r ≠ 52 → M' r = M r) ∧ ∀ u, u < t → M' 50 (12 + u) = M 50 u ∧ M' 51 (12 + u) = M 51 u ∧ M' 52 (12 + u) = M 52 u &&& 1
theorem lay1 (fu : Nat) (v : S64) (M : S32) : ∀ m t M' n, t + m = 12 → m < n → layI M M' t → ∃ M'', f_X12_layTried_L2 fu v n M' (nI t) = f_X12_layTried_L61 fu v fu M'' 0 ∧ layI M M'' 12 := by
  intro m
  induction m with
  | zero =>
    intro t M' n ht hn h
    obtain ⟨n, rfl⟩ := pos_ex hn
    have : t = 12 := by omega
    subst this
    refine ⟨M', ?_, h⟩
    show f_X12_layTried_J2 _ _ _ _ _ = _
    unfold f_X12_layTried_J2
    rw [if_pos (by decide)]
  | succ m ih =>
    intro t M' n ht hn h
    obtain ⟨n, rfl⟩ := pos_ex hn
    obtain ⟨h1, h2, h3⟩ := h
    have e50 := h1 50 t (rl12 (by simp) (by omega))
    have e51 := h1 51 t (rl12 (by simp) (by omega))
    have e52 := h1 52 t (rl12 (by simp) (by omega))
    have hI : layI M (up2 (up2 (up2 M' 50 (12 + t) (M' 50 t)) 51 (12 + t) (M' 51 t)) 52 (12 + t) (M' 52 t &&& 1)) (t + 1) := by
      refine ⟨((h1.up _ (hi12 (by simp) (by omega))).up _ (hi12 (by simp) (by omega))).up _ (hi12 (by simp) (by omega)), fun r a b c => ?_, fun u hu => ?_⟩
      · rw [up2_n _ _ _ c, up2_n _ _ _ b, up2_n _ _ _ a]; exact h2 r a b c
      · simp only [up2_a]
        by_cases z : u = t
        · subst z
          simp
          exact ⟨e50, e51, by rw [e52]⟩
        · simp only [show ¬ 12 + u = 12 + t by omega, and_false, if_false]
          exact h3 u (by omega)
    obtain ⟨M'', g1, g2⟩ := ih (t + 1) _ n (by omega) (by omega) hI
    refine ⟨M'', ?_, g2⟩
    rw [← g1]
    show f_X12_layTried_J2 _ _ _ _ _ = _
    unfold f_X12_layTried_J2
    have ck := fun k : Option S32 => tx_ck_q (j := t) (n := 24) (by omega) (by omega) k
    have ck' := fun k : Option S32 => tx_ck_q (j := 12 + t) (n := 24) (by omega) (by omega) k
    rw [if_neg (ge12 (by omega)), show (12 : Int32) + nI t = nI (12 + t) from by rw [show (12 : Int32) = nI 12 from rfl, nI_add], nI_clamp (n := 12 + t) (by omega), nI_clamp (n := t) (by omega), nI_1, ck, ck', tx_let_q, ck, ck', tx_let_q, ck, ck', tx_let_q, tx_let_q]
    rw [up2_n _ _ _ (show (51 : Nat) ≠ 50 by decide), up2_n _ _ _ (show (52 : Nat) ≠ 51 by decide), up2_n _ _ _ (show (52 : Nat) ≠ 50 by decide)]
def layP (M M' : S32) (t : Nat) : Prop := PF M M' ∧ (∀ r, r < 53 ∨ 57 < r → M' r = M r) ∧ ∀ u, u < t → M' 53 (6 + u) = M 53 u ∧ M' 54 (6 + u) = M 54 u ∧ M' 55 (6 + u) = M 55 u ∧ M' 56 (6 + u) = M 56 u ∧ M' 57 (6 + u) = M 57 u
theorem lay2 (fu : Nat) (v : S64) (M : S32) : ∀ m t M' n, t + m = 6 → m < n → layP M M' t → ∃ M'', f_X12_layTried_L61 fu v n M' (nI t) = some (pT (up2 (up2 M'' 58 1 (M'' 58 0)) 59 1 (M'' 59 0))) ∧ layP M M'' 6 := by
  intro m
  induction m with
  | zero =>
    intro t M' n ht hn h
    obtain ⟨n, rfl⟩ := pos_ex hn
    have : t = 6 := by omega
    subst this
    refine ⟨M', ?_, h⟩
    show f_X12_layTried_J61 _ _ _ _ _ = _
    unfold f_X12_layTried_J61
    rw [if_pos (by decide)]
    rfl
  | succ m ih =>
    intro t M' n ht hn h
    obtain ⟨n, rfl⟩ := pos_ex hn
    obtain ⟨h1, h2, h3⟩ := h
    have e3 := h1 53 t (rl6 (by simp) (by omega))
    have e4 := h1 54 t (rl6 (by simp) (by omega))
    have e5 := h1 55 t (rl6 (by simp) (by omega))
    have e6 := h1 56 t (rl6 (by simp) (by omega))
    have e7 := h1 57 t (rl6 (by simp) (by omega))
    have hI : layP M (up2 (up2 (up2 (up2 (up2 M' 53 (6 + t) (M' 53 t)) 54 (6 + t) (M' 54 t)) 55 (6 + t) (M' 55 t)) 56 (6 + t) (M' 56 t)) 57 (6 + t) (M' 57 t)) (t + 1) := by
      refine ⟨((((h1.up _ (hi6 (by simp) (by omega))).up _ (hi6 (by simp) (by omega))).up _ (hi6 (by simp) (by omega))).up _ (hi6 (by simp) (by omega))).up _ (hi6 (by simp) (by omega)), fun r a => ?_, fun u hu => ?_⟩
      · rw [up2_n _ _ _ (by omega), up2_n _ _ _ (by omega), up2_n _ _ _ (by omega), up2_n _ _ _ (by omega), up2_n _ _ _ (by omega)]; exact h2 r a
      · simp only [up2_a]
        by_cases z : u = t
        · subst z
          simp
          exact ⟨e3, e4, e5, e6, e7⟩
        · simp only [show ¬ 6 + u = 6 + t by omega, and_false, if_false]
          exact h3 u (by omega)
    obtain ⟨M'', g1, g2⟩ := ih (t + 1) _ n (by omega) (by omega) hI
    refine ⟨M'', ?_, g2⟩
    rw [← g1]
    show f_X12_layTried_J61 _ _ _ _ _ = _
    unfold f_X12_layTried_J61
    have ck := fun k : Option S32 => tx_ck_q (j := t) (n := 12) (by omega) (by omega) k
    have ck' := fun k : Option S32 => tx_ck_q (j := 6 + t) (n := 12) (by omega) (by omega) k
    rw [if_neg (ge6 (by omega)), show (6 : Int32) + nI t = nI (6 + t) from by rw [show (6 : Int32) = nI 6 from rfl, nI_add], nI_clamp (n := 6 + t) (by omega), nI_clamp (n := t) (by omega), nI_1, ck, ck', tx_let_q, ck, ck', tx_let_q, ck, ck', tx_let_q, ck, ck', tx_let_q, ck, ck', tx_let_q, tx_let_q]
    rfl
theorem lay_spec (fu : Nat) (hf : 1000 ≤ fu) (v : S64) (M : S32) : ∃ M', f_X12_layTried fu v M = some (pT M') ∧ PF M M' ∧ (∀ r, r < 50 ∨ 59 < r → M' r = M r) ∧ (∀ u, u < 12 → M' 50 (12 + u) = M 50 u ∧ M' 51 (12 + u) = M 51 u ∧ M' 52 (12 + u) = M 52 u &&& 1) ∧ (∀ u, u < 6 → M' 53 (6 + u) = M 53 u ∧ M' 54 (6 + u) = M 54 u ∧ M' 55 (6 + u) = M 55 u ∧ M' 56 (6 + u) = M 56 u ∧ M' 57 (6 + u) = M 57 u) ∧ M' 58 1 = M 58 0 ∧ M' 59 1 = M 59 0 := by
  obtain ⟨M1, a1, a2, a3, a4⟩ := lay1 fu v M 12 0 M fu (by omega) (by omega) ⟨PF.refl M, fun _ _ _ _ => rfl, fun u hu => absurd hu (by omega)⟩
  obtain ⟨M2, c1, c2, c3, c4⟩ := lay2 fu v M1 6 0 M1 fu (by omega) (by omega) ⟨PF.refl M1, fun _ _ => rfl, fun u hu => absurd hu (by omega)⟩
  refine ⟨up2 (up2 M2 58 1 (M2 58 0)) 59 1 (M2 59 0), a1.trans c1, ?_, fun r hr => ?_, fun u hu => ?_, fun u hu => ?_, ?_, ?_⟩
  · exact ((a2.trans c2).up _ (by decide)).up _ (by decide)
  · rw [up2_n _ _ _ (by omega), up2_n _ _ _ (by omega), c3 r (by omega), a3 r (by omega) (by omega) (by omega)]
  · rw [up2_n _ _ _ (by omega), up2_n _ _ _ (by omega), up2_n _ _ _ (by omega), up2_n _ _ _ (by omega), up2_n _ _ _ (by omega), up2_n _ _ _ (by omega), c3 50 (by omega), c3 51 (by omega), c3 52 (by omega)]
    exact a4 u hu
  · simp only [up2_a]
    simp
    obtain ⟨d1, d2, d3, d4, d5⟩ := c4 u hu
    rw [d1, d2, d3, d4, d5, a3 53 (by omega) (by omega) (by omega), a3 54 (by omega) (by omega) (by omega), a3 55 (by omega) (by omega) (by omega), a3 56 (by omega) (by omega) (by omega), a3 57 (by omega) (by omega) (by omega)]
    exact ⟨rfl, rfl, rfl, rfl, rfl⟩
  · simp only [up2_a]
    simp
    rw [c3 58 (by omega), a3 58 (by omega) (by omega) (by omega)]
  · simp only [up2_a]
    simp
    rw [c3 59 (by omega), a3 59 (by omega) (by omega) (by omega)]
theorem and1 {y : Int32} (h : y = 0 ∨ y = 1) : y &&& 1 = y := by rcases h with rfl | rfl <;> rfl
/-- plain flags -/
def plF (M : S32) : Prop := M 0 61 = 0 ∧ M 0 62 = 0 ∧ M 0 63 = 0 ∧ M 0 64 = 0 ∧ M 0 65 = 0 ∧ M 0 66 = -1 ∧ M 0 67 = -1 ∧ M 0 68 = -1 ∧ M 0 69 = 0
theorem plF_bar {M : S32} (h : plF M) {t a : Nat} (ht : t < 2 ^ 31) (ha : a < 2 ^ 31) (e : M 26 t = nI a) : ¬ bar M t := by
  obtain ⟨-, -, -, -, -, h6, h7, -, -⟩ := h
  rintro (z | z)
  · rw [e, h6] at z; exact m1_ne ha z
  · rw [h7] at z; exact m1_ne ht z
theorem plF_fl {B W M : S32} {np nt nr : Nat} (h : plF M) (hp : PL B W M np nt nr) : flK W M np nr := by
  obtain ⟨-, h2, h3, h4, -, -, -, h8, -⟩ := h
  obtain ⟨⟨hnp, hnt, hnr⟩, -, -, -, hbp, -, -, -, hwp, -, hwr, -, hbi, -⟩ := hp
  refine ⟨fun p hp => ?_, fun r hr => ?_⟩
  · rw [if_pos h2]
    obtain ⟨-, -, -, -, -, w6⟩ := hwp p hp
    obtain ⟨-, -, b5⟩ := hbp p hp
    obtain ⟨-, a, ha, ea⟩ := hbi.1 p hp
    exact ⟨w6.trans b5, a, ha, w6.trans ea⟩
  · rw [if_pos h4, if_neg (by rw [h8]; exact m1_ne (by omega))]
    obtain ⟨w14, w15⟩ := hwr r hr
    exact ⟨w14, Or.inl ⟨h3, w15⟩⟩
theorem PL_BKM {B W M : S32} {np nt nr : Nat} (hp : PL B W M np nt nr) : BKM B M np nt nr := by
  obtain ⟨h1, h2, h3, h4, -, h6, -, -, -, -, -, -, hbi, -⟩ := hp
  exact ⟨h1, h2, h3, h4, h6, hbi⟩
/-- the present world, with plain flags -/
theorem NW_WR {B L W M : S32} {np nt nr w : Nat} (h : NW B L W M np nt nr w) (hf : plF M) (x : Nat) : WR B L W M 0 np nt nr x (fun p => p < np) ∧ W 0 2 = M 58 0 := by
  obtain ⟨hp, hl, hk, hw, hb⟩ := h
  have hB := PL_BKM hp
  have hfl := plF_fl hf hp
  obtain ⟨⟨hnp, hnt, hnr⟩, -, -, -, hbp, hbt, -, -, hwp, hwt, hwr, hw0, hbi, hwi⟩ := hp
  refine ⟨⟨⟨by omega, hB, hl, hfl⟩, ⟨fun t ht => ?_, fun p hp => ?_, hw0.2⟩, hwi.1, hwi.2.1, hwi.2.2.1, hwi.2.2.2.1, hb⟩, hw0.1⟩
  · obtain ⟨e1, e2, e3⟩ := hwt t ht
    obtain ⟨⟨a, ha, ea⟩, -⟩ := hbi.2.1 t ht
    obtain ⟨t7, -⟩ := hbt t ht
    rw [Nat.mul_zero, Nat.zero_add]
    exact ⟨Or.inl ⟨e1, fun _ => plF_bar hf (by omega) (show a < 2 ^ 31 by omega) (t7.symm.trans ea)⟩, e2, fun _ _ => e3⟩
  · obtain ⟨e5, e7, e8, e9, e10, -⟩ := hwp p hp
    rw [Nat.mul_zero, Nat.zero_add]
    exact ⟨e5, e7, e8, e9, e10⟩
theorem pT_plF (M : S32) : plF (pT M) := pT_v M
/-- the tried world laid and copied -/
theorem tr_lay (fu : Nat) (hf : 1000 ≤ fu) {B L W M : S32} {np nt nr w : Nat} (h : NW B L W M np nt nr w) (v : S64) (T : S32) (hT : T 0 15 = 0 ∨ T 0 15 = 1) :
    ∃ Wc M', f_X10_copy fu W T = some Wc ∧ f_X12_layTried fu v M = some M' ∧ PF M M' ∧ plF M' ∧ WR B L Wc M' 1 np nt nr 99 (fun p => p < np) ∧ wkOK Wc np w ∧ Wc 0 2 = M' 58 1 ∧ Wc 0 2 = W 0 2 ∧ Wc 0 15 = T 0 15 ∧ Wc 0 3 = W 0 3 ∧
      (∀ p, p < 6 → Wc 5 p = W 5 p ∧ Wc 6 p = W 6 p ∧ Wc 7 p = W 7 p ∧ Wc 8 p = W 8 p ∧ Wc 9 p = W 9 p ∧ Wc 10 p = W 10 p) ∧ (∀ t, t < 12 → Wc 11 t = W 11 t ∧ Wc 12 t = W 12 t ∧ Wc 13 t = W 13 t) ∧ (∀ r, r < 4 → Wc 14 r = W 14 r ∧ Wc 15 r = W 15 r) ∧ (∀ r, r ≠ 0 → r < 50 ∨ 59 < r → M' r = M r) := by
  obtain ⟨Wc, c1, c2, c3, c4, c5, c6, c7, c8⟩ := cp_spec fu W T
  obtain ⟨M', l1, l2, l3, l4, l5, l6, l7⟩ := lay_spec fu hf v M
  have hPF : PF M (pT M') := l2.trans (pT_pf M')
  have hN := h.pf hPF
  obtain ⟨hW, hrt⟩ := NW_WR hN (pT_plF M') 99
  obtain ⟨⟨-, hB, hl, hfl⟩, ⟨hth, hpp, hw0⟩, hi1, hi2, hi3, hi4, hi5⟩ := hW
  have hnt : nt ≤ 12 := hB.1.2.1
  have hnp : np ≤ 6 := hB.1.1
  have hnr : nr ≤ 4 := hB.1.2.2
  have s : ∀ r i, r ≠ 0 → pT M' r i = M' r i := fun r i hr => by rw [pT_n M' hr]
  have g := fun r i (hr : r ≠ 0) (hl : rl r i = true) => (s r i hr).trans (l2 r i hl)
  refine ⟨Wc, pT M', c1, l1, hPF, pT_plF M', ⟨⟨by omega, hB, hl, fun p hp => ?_, fun r hr => ?_⟩, ⟨fun t ht => ?_, fun p hp => ?_, ?_⟩, fun p hp => ?_, fun t ht => ?_, fun t ht => ?_, ?_, ?_⟩, ⟨?_, fun p hp => ?_⟩, ?_, c6, c8, c7, c2, c3, c4, fun r h0 hr => (pT_n M' h0).trans (l3 r hr)⟩
  · rw [(c2 p (by omega)).2.1]; exact hfl.1 p hp
  · rw [(c4 r (by omega)).1, (c4 r (by omega)).2]; exact hfl.2 r hr
  · obtain ⟨e1, e2, e3⟩ := hth t ht
    obtain ⟨q1, q2, q3⟩ := c3 t (by omega)
    obtain ⟨r1, r2, r3⟩ := l4 t (by omega)
    rw [q1, q2, q3, s 50 _ (by decide), s 51 _ (by decide), s 52 _ (by decide), Nat.mul_one, r1, r2, r3]
    rw [Nat.mul_zero, Nat.zero_add, g 50 t (by decide) (rl12 (by simp) (by omega)), g 51 t (by decide) (rl12 (by simp) (by omega))] at *
    refine ⟨e1, e2, fun hx hy => ?_⟩
    have e4 := e3 hx hy
    rw [g 52 t (by decide) (rl12 (by simp) (by omega))] at e4
    rw [← e4, and1 (hi3 t ht)]
  · obtain ⟨e5, e7, e8, e9, e10⟩ := hpp p hp
    obtain ⟨q5, q6, q7, q8, q9, q10⟩ := c2 p (by omega)
    obtain ⟨r1, r2, r3, r4, r5⟩ := l5 p (by omega)
    rw [q5, q7, q8, q9, q10, s 53 _ (by decide), s 54 _ (by decide), s 55 _ (by decide), s 56 _ (by decide), s 57 _ (by decide), Nat.mul_one, r1, r2, r3, r4, r5]
    rw [Nat.mul_zero, Nat.zero_add, g 53 p (by decide) (rl6 (by simp) (by omega))] at e5
    rw [Nat.mul_zero, Nat.zero_add, g 54 p (by decide) (rl6 (by simp) (by omega))] at e7
    rw [Nat.mul_zero, Nat.zero_add, g 55 p (by decide) (rl6 (by simp) (by omega))] at e8
    rw [Nat.mul_zero, Nat.zero_add, g 56 p (by decide) (rl6 (by simp) (by omega))] at e9
    rw [Nat.mul_zero, Nat.zero_add, g 57 p (by decide) (rl6 (by simp) (by omega))] at e10
    exact ⟨e5, e7, e8, e9, e10⟩
  · rw [c5, s 59 _ (by decide), l7, hw0, g 59 0 (by decide) (by decide)]
  · obtain ⟨q5, q6, q7, q8, q9, q10⟩ := c2 p (by omega)
    rw [q5, q9, q10]; exact hi1 p hp
  · obtain ⟨q1, q2, q3⟩ := c3 t (by omega)
    rw [q1, q2]; exact hi2 t ht
  · rw [(c3 t (by omega)).2.2]; exact hi3 t ht
  · rw [c6]; exact hi4
  · rw [c8]; exact hT
  · rw [c5]; exact h.2.2.1.1
  · rw [(c2 p (by omega)).2.2.1, (c2 p (by omega)).2.2.2.1]; exact h.2.2.1.2 p hp
  · rw [c6, s 58 _ (by decide), l6, hrt, g 58 0 (by decide) (by decide)]
